/-! ===== 22: the law's loop ===== -/
/-- what the calls owe: from Inv both answer alike, and Inv holds again -/
def ql_o0 (Inv : qv_H → Prop) : Prop := ∀ (a1 : Int32) (h : qv_H), Inv h → ∃ (r : Int32) (h1 : qv_H) (h2 : qv_H), fX8_letter 0 a1 h = some (r, h1) ∧ qv_ob h1 8 45 = some () ∧ fX9_letter 45 a1 h1 = some (r, h2) ∧ Inv h2
def ql_o1 (Inv : qv_H → Prop) : Prop := ∀ (h : qv_H), Inv h → ∃ (r : Int32) (h1 : qv_H) (h2 : qv_H), fX8_land 0  h = some (r, h1) ∧ qv_ob h1 8 45 = some () ∧ fX9_land 45  h1 = some (r, h2) ∧ Inv h2
def ql_o2 (Inv : qv_H → Prop) : Prop := ∀ (a1 a2 : Int32) (h : qv_H), Inv h → ∃ (r : Int32) (h1 : qv_H) (h2 : qv_H), fX8_road 0 a1 a2 h = some (r, h1) ∧ qv_ob h1 8 45 = some () ∧ fX9_road 45 a1 a2 h1 = some (r, h2) ∧ Inv h2
def ql_o3 (Inv : qv_H → Prop) : Prop := ∀ (a1 a2 : Int32) (h : qv_H), Inv h → ∃ (r : Int32) (h1 : qv_H) (h2 : qv_H), fX8_sign 0 a1 a2 h = some (r, h1) ∧ qv_ob h1 8 45 = some () ∧ fX9_sign 45 a1 a2 h1 = some (r, h2) ∧ Inv h2
def ql_o4 (Inv : qv_H → Prop) : Prop := ∀ (a1 : Int32) (h : qv_H), Inv h → ∃ (r : Int32) (h1 : qv_H) (h2 : qv_H), fX8_shown 0 a1 h = some (r, h1) ∧ qv_ob h1 8 45 = some () ∧ fX9_shown 45 a1 h1 = some (r, h2) ∧ Inv h2
def ql_o5 (Inv : qv_H → Prop) : Prop := ∀ (a1 : Int32) (h : qv_H), Inv h → ∃ (r : Int32) (h1 : qv_H) (h2 : qv_H), fX8_fits 0 a1 h = some (r, h1) ∧ qv_ob h1 8 45 = some () ∧ fX9_fits 45 a1 h1 = some (r, h2) ∧ Inv h2
def ql_o6 (Inv : qv_H → Prop) : Prop := ∀ (a1 : Int32) (h : qv_H), Inv h → ∃ (r : Int32) (h1 : qv_H) (h2 : qv_H), fX8_good 0 a1 h = some (r, h1) ∧ qv_ob h1 8 45 = some () ∧ fX9_good 45 a1 h1 = some (r, h2) ∧ Inv h2
def ql_o7 (Inv : qv_H → Prop) : Prop := ∀ (a1 a2 : Int32) (h : qv_H), Inv h → ∃ (r : Int32) (h1 : qv_H) (h2 : qv_H), fX8_says 0 a1 a2 h = some (r, h1) ∧ qv_ob h1 8 45 = some () ∧ fX9_says 45 a1 a2 h1 = some (r, h2) ∧ Inv h2
def ql_o8 (Inv : qv_H → Prop) : Prop := ∀ (a1 : Int32) (h : qv_H), Inv h → ∃ (r : Int32) (h1 : qv_H) (h2 : qv_H), fX8_worlds 0 a1 h = some (r, h1) ∧ qv_ob h1 8 45 = some () ∧ fX9_worlds 45 a1 h1 = some (r, h2) ∧ Inv h2
def ql_o9 (Inv : qv_H → Prop) : Prop := ∀ (a1 a2 : Int32) (h : qv_H), Inv h → ∃ (r : Int32) (h1 : qv_H) (h2 : qv_H), fX8_fact 0 a1 a2 h = some (r, h1) ∧ qv_ob h1 8 45 = some () ∧ fX9_fact 45 a1 a2 h1 = some (r, h2) ∧ Inv h2
def ql_o10 (Inv : qv_H → Prop) : Prop := ∀ (a1 a2 : Int32) (h : qv_H), Inv h → ∃ (r : Int32) (h1 : qv_H) (h2 : qv_H), fX8_way 0 a1 a2 h = some (r, h1) ∧ qv_ob h1 8 45 = some () ∧ fX9_way 45 a1 a2 h1 = some (r, h2) ∧ Inv h2
def ql_o11 (Inv : qv_H → Prop) : Prop := ∀ (h : qv_H), Inv h → ∃ (r : Int32) (h1 : qv_H) (h2 : qv_H), fX8_forget 0  h = some (r, h1) ∧ qv_ob h1 8 45 = some () ∧ fX9_forget 45  h1 = some (r, h2) ∧ Inv h2
def ql_o12 (Inv : qv_H → Prop) : Prop := ∀ (a1 : Int32) (h : qv_H), Inv h → ∃ (r : Int32) (h1 : qv_H) (h2 : qv_H), fX8_sure 0 a1 h = some (r, h1) ∧ qv_ob h1 8 45 = some () ∧ fX9_sure 45 a1 h1 = some (r, h2) ∧ Inv h2
def ql_o13 (Inv : qv_H → Prop) : Prop := ∀ (h : qv_H), Inv h → ∃ (r : Int32) (h1 : qv_H) (h2 : qv_H), fX8_proof 0  h = some (r, h1) ∧ qv_ob h1 8 45 = some () ∧ fX9_proof 45  h1 = some (r, h2) ∧ Inv h2
def ql_o14 (Inv : qv_H → Prop) : Prop := ∀ (a1 a2 : Int32) (h : qv_H), Inv h → ∃ (r : Int32) (h1 : qv_H) (h2 : qv_H), fX8_tells 0 a1 a2 h = some (r, h1) ∧ qv_ob h1 8 45 = some () ∧ fX9_tells 45 a1 a2 h1 = some (r, h2) ∧ Inv h2
def ql_o15 (Inv : qv_H → Prop) : Prop := ∀ (h : qv_H), Inv h → ∃ (r : Int32), fX8_rings 0  h = some r ∧ qv_ob h 8 45 = some () ∧ fX9_rings 45  h = some r ∧ Inv h
def ql_o16 (Inv : qv_H → Prop) : Prop := ∀ (a1 : Int32) (h : qv_H), Inv h → ∃ (r : Int32) (h1 : qv_H) (h2 : qv_H), fX8_joking 0 a1 h = some (r, h1) ∧ qv_ob h1 8 45 = some () ∧ fX9_joking 45 a1 h1 = some (r, h2) ∧ Inv h2
def ql_o17 (Inv : qv_H → Prop) : Prop := ∀ (a1 : Int32) (h : qv_H), Inv h → ∃ (r : Int32) (h1 : qv_H) (h2 : qv_H), fX8_bears 0 a1 h = some (r, h1) ∧ qv_ob h1 8 45 = some () ∧ fX9_bears 45 a1 h1 = some (r, h2) ∧ Inv h2
def ql_o18 (Inv : qv_H → Prop) : Prop := ∀ (a1 a2 : Int32) (h : qv_H), Inv h → ∃ (r : Int32) (h1 : qv_H) (h2 : qv_H), fX8_fewest 0 a1 a2 h = some (r, h1) ∧ qv_ob h1 8 45 = some () ∧ fX9_fewest 45 a1 a2 h1 = some (r, h2) ∧ Inv h2
def ql_o19 (Inv : qv_H → Prop) : Prop := ∀ (a1 : Int32) (h : qv_H), Inv h → ∃ (r : Int32) (h1 : qv_H) (h2 : qv_H), fX8_together 0 a1 h = some (r, h1) ∧ qv_ob h1 8 45 = some () ∧ fX9_together 45 a1 h1 = some (r, h2) ∧ Inv h2
def ql_o20 (Inv : qv_H → Prop) : Prop := ∀ (a1 a2 : Int32) (h : qv_H), Inv h → ∃ (r : Int32) (h1 : qv_H) (h2 : qv_H), fX8_go 0 a1 a2 h = some (r, h1) ∧ qv_ob h1 8 45 = some () ∧ fX9_go 45 a1 a2 h1 = some (r, h2) ∧ Inv h2
def ql_o21 (Inv : qv_H → Prop) : Prop := ∀ (a1 : Int32) (h : qv_H), Inv h → ∃ (r : Int32) (h1 : qv_H) (h2 : qv_H), fX8_row 0 a1 h = some (r, h1) ∧ qv_ob h1 8 45 = some () ∧ fX9_row 45 a1 h1 = some (r, h2) ∧ Inv h2
def ql_o22 (Inv : qv_H → Prop) : Prop := ∀ (a1 : Int32) (h : qv_H), Inv h → ∃ (r : Int32) (h1 : qv_H) (h2 : qv_H), fX8_book 0 a1 h = some (r, h1) ∧ qv_ob h1 8 45 = some () ∧ fX9_book 45 a1 h1 = some (r, h2) ∧ Inv h2
def ql_o23 (Inv : qv_H → Prop) : Prop := ∀ (h : qv_H), Inv h → ∃ (r : Int32) (h2 : qv_H), fX8_next 0  h = some r ∧ qv_ob h 8 45 = some () ∧ fX9_next 45  h = some (r, h2) ∧ Inv h2
def ql_o24 (Inv : qv_H → Prop) : Prop := ∀ (a1 a2 a3 : Int32) (h : qv_H), Inv h → ∃ (r : Int32) (h1 : qv_H) (h2 : qv_H), fX8_lands 0 a1 a2 a3 h = some (r, h1) ∧ qv_ob h1 8 45 = some () ∧ fX9_lands 45 a1 a2 a3 h1 = some (r, h2) ∧ Inv h2
def ql_o25 (Inv : qv_H → Prop) : Prop := ∀ (a1 : Int32) (h : qv_H), Inv h → ∃ (r : Int32) (h1 : qv_H) (h2 : qv_H), fX8_judge 0 a1 h = some (r, h1) ∧ qv_ob h1 8 45 = some () ∧ fX9_judge 45 a1 h1 = some (r, h2) ∧ Inv h2
def ql_o26 (Inv : qv_H → Prop) : Prop := ∀ (h : qv_H), Inv h → ∃ (r : Int32) (h1 : qv_H) (h2 : qv_H), fX8_image 0  h = some (r, h1) ∧ qv_ob h1 8 45 = some () ∧ fX9_image 45  h1 = some (r, h2) ∧ Inv h2
def ql_o27 (Inv : qv_H → Prop) : Prop := ∀ (h : qv_H), Inv h → ∃ (r : Int32) (h1 : qv_H) (h2 : qv_H), fX8_on 0  h = some (r, h1) ∧ qv_ob h1 8 45 = some () ∧ fX9_on 45  h1 = some (r, h2) ∧ Inv h2
def ql_o28 (Inv : qv_H → Prop) : Prop := ∀ (a1 : Int32) (h : qv_H), Inv h → ∃ (r : Int32) (h2 : qv_H), fX8_count 0 a1 h = some r ∧ qv_ob h 8 45 = some () ∧ fX9_count 45 a1 h = some (r, h2) ∧ Inv h2
theorem qM_L_13 : Cond.methodLink RL 13 yX8_letter ∈ qv_WS := (qv_i4 (List.mem_of_getElem? (i := 54) (by decide +kernel)))
theorem qM_L_17 : Cond.methodLink RL 17 yX9_letter ∈ qv_WS := (qv_i13 (List.mem_of_getElem? (i := 56) (by decide +kernel)))
theorem qM_L_18 : Cond.methodLink RL 18 yX8_land ∈ qv_WS := (qv_i5 (List.mem_of_getElem? (i := 1) (by decide +kernel)))
theorem qM_L_22 : Cond.methodLink RL 22 yX9_land ∈ qv_WS := (qv_i14 (List.mem_of_getElem? (i := 2) (by decide +kernel)))
theorem qM_L_23 : Cond.methodLink RL 23 yX8_road ∈ qv_WS := (qv_i8 (List.mem_of_getElem? (i := 2) (by decide +kernel)))
theorem qM_L_27 : Cond.methodLink RL 27 yX9_road ∈ qv_WS := (qv_i15 (List.mem_of_getElem? (i := 1) (by decide +kernel)))
theorem qM_L_28 : Cond.methodLink RL 28 yX8_sign ∈ qv_WS := (qv_i8 (List.mem_of_getElem? (i := 11) (by decide +kernel)))
theorem qM_L_31 : Cond.methodLink RL 31 yX9_sign ∈ qv_WS := (qv_i15 (List.mem_of_getElem? (i := 5) (by decide +kernel)))
theorem qM_L_32 : Cond.methodLink RL 32 yX8_shown ∈ qv_WS := (qv_i8 (List.mem_of_getElem? (i := 16) (by decide +kernel)))
theorem qM_L_35 : Cond.methodLink RL 35 yX9_shown ∈ qv_WS := (qv_i15 (List.mem_of_getElem? (i := 12) (by decide +kernel)))
theorem qM_L_36 : Cond.methodLink RL 36 yX8_fits ∈ qv_WS := (qv_i8 (List.mem_of_getElem? (i := 21) (by decide +kernel)))
theorem qM_L_39 : Cond.methodLink RL 39 yX9_fits ∈ qv_WS := (qv_i15 (List.mem_of_getElem? (i := 16) (by decide +kernel)))
theorem qM_L_40 : Cond.methodLink RL 40 yX8_good ∈ qv_WS := (qv_i8 (List.mem_of_getElem? (i := 27) (by decide +kernel)))
theorem qM_L_43 : Cond.methodLink RL 43 yX9_good ∈ qv_WS := (qv_i15 (List.mem_of_getElem? (i := 38) (by decide +kernel)))
theorem qM_L_44 : Cond.methodLink RL 44 yX8_says ∈ qv_WS := (qv_i8 (List.mem_of_getElem? (i := 32) (by decide +kernel)))
theorem qM_L_47 : Cond.methodLink RL 47 yX9_says ∈ qv_WS := (qv_i15 (List.mem_of_getElem? (i := 54) (by decide +kernel)))
theorem qM_L_48 : Cond.methodLink RL 48 yX8_worlds ∈ qv_WS := (qv_i8 (List.mem_of_getElem? (i := 37) (by decide +kernel)))
theorem qM_L_51 : Cond.methodLink RL 51 yX9_worlds ∈ qv_WS := (qv_i15 (List.mem_of_getElem? (i := 58) (by decide +kernel)))
theorem qM_L_52 : Cond.methodLink RL 52 yX8_fact ∈ qv_WS := (qv_i8 (List.mem_of_getElem? (i := 41) (by decide +kernel)))
theorem qM_L_55 : Cond.methodLink RL 55 yX9_fact ∈ qv_WS := (qv_i16 (List.mem_of_getElem? (i := 1) (by decide +kernel)))
theorem qM_L_56 : Cond.methodLink RL 56 yX8_way ∈ qv_WS := (qv_i8 (List.mem_of_getElem? (i := 53) (by decide +kernel)))
theorem qM_L_59 : Cond.methodLink RL 59 yX9_way ∈ qv_WS := (qv_i16 (List.mem_of_getElem? (i := 8) (by decide +kernel)))
theorem qM_L_60 : Cond.methodLink RL 60 yX8_forget ∈ qv_WS := (qv_i8 (List.mem_of_getElem? (i := 57) (by decide +kernel)))
theorem qM_L_63 : Cond.methodLink RL 63 yX9_forget ∈ qv_WS := (qv_i16 (List.mem_of_getElem? (i := 12) (by decide +kernel)))
theorem qM_L_64 : Cond.methodLink RL 64 yX8_sure ∈ qv_WS := (qv_i9 (List.mem_of_getElem? (i := 1) (by decide +kernel)))
theorem qM_L_67 : Cond.methodLink RL 67 yX9_sure ∈ qv_WS := (qv_i16 (List.mem_of_getElem? (i := 16) (by decide +kernel)))
theorem qM_L_68 : Cond.methodLink RL 68 yX8_proof ∈ qv_WS := (qv_i9 (List.mem_of_getElem? (i := 13) (by decide +kernel)))
theorem qM_L_71 : Cond.methodLink RL 71 yX9_proof ∈ qv_WS := (qv_i16 (List.mem_of_getElem? (i := 26) (by decide +kernel)))
theorem qM_L_72 : Cond.methodLink RL 72 yX8_tells ∈ qv_WS := (qv_i9 (List.mem_of_getElem? (i := 37) (by decide +kernel)))
theorem qM_L_75 : Cond.methodLink RL 75 yX9_tells ∈ qv_WS := (qv_i16 (List.mem_of_getElem? (i := 36) (by decide +kernel)))
theorem qM_L_76 : Cond.methodLink RL 76 yX8_rings ∈ qv_WS := (qv_i9 (List.mem_of_getElem? (i := 47) (by decide +kernel)))
theorem qM_L_79 : Cond.methodLink RL 79 yX9_rings ∈ qv_WS := (qv_i16 (List.mem_of_getElem? (i := 43) (by decide +kernel)))
theorem qM_L_80 : Cond.methodLink RL 80 yX8_joking ∈ qv_WS := (qv_i9 (List.mem_of_getElem? (i := 55) (by decide +kernel)))
theorem qM_L_83 : Cond.methodLink RL 83 yX9_joking ∈ qv_WS := (qv_i16 (List.mem_of_getElem? (i := 47) (by decide +kernel)))
theorem qM_L_84 : Cond.methodLink RL 84 yX8_bears ∈ qv_WS := (qv_i9 (List.mem_of_getElem? (i := 63) (by decide +kernel)))
theorem qM_L_87 : Cond.methodLink RL 87 yX9_bears ∈ qv_WS := (qv_i16 (List.mem_of_getElem? (i := 51) (by decide +kernel)))
theorem qM_L_88 : Cond.methodLink RL 88 yX8_fewest ∈ qv_WS := (qv_i10 (List.mem_of_getElem? (i := 10) (by decide +kernel)))
theorem qM_L_91 : Cond.methodLink RL 91 yX9_fewest ∈ qv_WS := (qv_i16 (List.mem_of_getElem? (i := 55) (by decide +kernel)))
theorem qM_L_92 : Cond.methodLink RL 92 yX8_together ∈ qv_WS := (qv_i10 (List.mem_of_getElem? (i := 25) (by decide +kernel)))
theorem qM_L_95 : Cond.methodLink RL 95 yX9_together ∈ qv_WS := (qv_i17 (List.mem_of_getElem? (i := 1) (by decide +kernel)))
theorem qM_L_96 : Cond.methodLink RL 96 yX8_go ∈ qv_WS := (qv_i10 (List.mem_of_getElem? (i := 30) (by decide +kernel)))
theorem qM_L_99 : Cond.methodLink RL 99 yX9_go ∈ qv_WS := (qv_i17 (List.mem_of_getElem? (i := 5) (by decide +kernel)))
theorem qM_L_100 : Cond.methodLink RL 100 yX8_row ∈ qv_WS := (qv_i11 (List.mem_of_getElem? (i := 15) (by decide +kernel)))
theorem qM_L_103 : Cond.methodLink RL 103 yX9_row ∈ qv_WS := (qv_i17 (List.mem_of_getElem? (i := 36) (by decide +kernel)))
theorem qM_L_104 : Cond.methodLink RL 104 yX8_book ∈ qv_WS := (qv_i11 (List.mem_of_getElem? (i := 23) (by decide +kernel)))
theorem qM_L_107 : Cond.methodLink RL 107 yX9_book ∈ qv_WS := (qv_i17 (List.mem_of_getElem? (i := 40) (by decide +kernel)))
theorem qM_L_108 : Cond.methodLink RL 108 yX8_next ∈ qv_WS := (qv_i11 (List.mem_of_getElem? (i := 51) (by decide +kernel)))
theorem qM_L_111 : Cond.methodLink RL 111 yX9_next ∈ qv_WS := (qv_i17 (List.mem_of_getElem? (i := 56) (by decide +kernel)))
theorem qM_L_112 : Cond.methodLink RL 112 yX8_lands ∈ qv_WS := (qv_i11 (List.mem_of_getElem? (i := 63) (by decide +kernel)))
theorem qM_L_116 : Cond.methodLink RL 116 yX9_lands ∈ qv_WS := (qv_i17 (List.mem_of_getElem? (i := 60) (by decide +kernel)))
theorem qM_L_117 : Cond.methodLink RL 117 yX8_judge ∈ qv_WS := (qv_i12 (List.mem_of_getElem? (i := 6) (by decide +kernel)))
theorem qM_L_120 : Cond.methodLink RL 120 yX9_judge ∈ qv_WS := (qv_i18 (List.mem_of_getElem? (i := 3) (by decide +kernel)))
theorem qM_L_121 : Cond.methodLink RL 121 yX8_image ∈ qv_WS := (qv_i12 (List.mem_of_getElem? (i := 18) (by decide +kernel)))
theorem qM_L_124 : Cond.methodLink RL 124 yX9_image ∈ qv_WS := (qv_i14 (List.mem_of_getElem? (i := 57) (by decide +kernel)))
theorem qM_L_125 : Cond.methodLink RL 125 yX8_on ∈ qv_WS := (qv_i12 (List.mem_of_getElem? (i := 26) (by decide +kernel)))
theorem qM_L_128 : Cond.methodLink RL 128 yX9_on ∈ qv_WS := (qv_i14 (List.mem_of_getElem? (i := 61) (by decide +kernel)))
theorem qM_L_129 : Cond.methodLink RL 129 yX8_count ∈ qv_WS := (qv_i12 (List.mem_of_getElem? (i := 30) (by decide +kernel)))
theorem qM_L_132 : Cond.methodLink RL 132 yX9_count ∈ qv_WS := (qv_i18 (List.mem_of_getElem? (i := 7) (by decide +kernel)))
def ql_Ok (Inv : qv_H → Prop) : Prop := (∀ h, Inv h → qv_ob h 7 0 = some ()) ∧ ql_o0 Inv ∧ ql_o1 Inv ∧ ql_o2 Inv ∧ ql_o3 Inv ∧ ql_o4 Inv ∧ ql_o5 Inv ∧ ql_o6 Inv ∧ ql_o7 Inv ∧ ql_o8 Inv ∧ ql_o9 Inv ∧ ql_o10 Inv ∧ ql_o11 Inv ∧ ql_o12 Inv ∧ ql_o13 Inv ∧ ql_o14 Inv ∧ ql_o15 Inv ∧ ql_o16 Inv ∧ ql_o17 Inv ∧ ql_o18 Inv ∧ ql_o19 Inv ∧ ql_o20 Inv ∧ ql_o21 Inv ∧ ql_o22 Inv ∧ ql_o23 Inv ∧ ql_o24 Inv ∧ ql_o25 Inv ∧ ql_o26 Inv ∧ ql_o27 Inv ∧ ql_o28 Inv
set_option maxRecDepth 100000 in
set_option maxHeartbeats 4000000 in
theorem ql_case0 {l : Launch} {g : qv_G} {b L : Nat} {xs : Nat → Int32} {Inv : qv_H → Prop} (hob : ∀ h, Inv h → qv_ob h 7 0 = some ()) (ho : ql_o0 Inv) {i : Nat} (hi : i + 3 < L) (hL : L ≤ 2048) {h : qv_H} (hI : Inv h) (k : ∀ h2, Inv h2 → ql_J l g b L xs 861 [some (.ref 2000), some (.ref 0), some (.ref 45), some (.int (nI i))] [] h2) : ql_J l g b L xs 164 [some (.ref 2000), some (.ref 0), some (.ref 45), some (.int (nI i))] [] h := by
  obtain ⟨r, h1, h2, e1, e2, e3, e4⟩ := ho (xs (nI i + (1 : Int32)).toNatClampNeg) h hI
  have b1 : vp_in (nI i + (1 : Int32)) L := by rw [show nI i + (1 : Int32) = nI (i + 1) from nI_add i 1]; exact vp_in_nI (by omega) (by omega)
  refine ql_aload_n dL_law_164 (i := 1) rfl rfl ?_
  refine ql_aload_n dL_law_165 (i := 0) rfl rfl ?_
  refine ql_iload_n dL_law_166 (i := 3) rfl rfl ?_
  refine ql_iconst (v := (1 : Int32)) dL_law_167 rfl ?_
  refine ql_iadd dL_law_168 ?_
  refine ql_sld dL_law_169 b1 ?_
  refine ql_cV (d2 := mX8_letter) (o := 0) (ci := 7) (r := some (.int r)) (h2 := h1) (av := [.int (xs (nI i + (1 : Int32)).toNatClampNeg)]) (st := []) dL_law_170 qM_L_13 qD_X8_letter (hob h hI) rfl rfl ⟨by decide, by decide⟩ rfl (Nat.le_of_ble_eq_true rfl) (Nat.le_of_ble_eq_true rfl) (sX8_letter e1) rfl ?_
  refine ql_aload_n dL_law_173 (i := 2) rfl rfl ?_
  refine ql_aload_n dL_law_174 (i := 0) rfl rfl ?_
  refine ql_iload_n dL_law_175 (i := 3) rfl rfl ?_
  refine ql_iconst (v := (1 : Int32)) dL_law_176 rfl ?_
  refine ql_iadd dL_law_177 ?_
  refine ql_sld dL_law_178 b1 ?_
  refine ql_cV (d2 := mX9_letter) (o := 45) (ci := 8) (r := some (.int r)) (h2 := h2) (av := [.int (xs (nI i + (1 : Int32)).toNatClampNeg)]) (st := [.int r]) dL_law_179 qM_L_17 qD_X9_letter e2 rfl rfl ⟨by decide, by decide⟩ rfl (Nat.le_of_ble_eq_true rfl) (Nat.le_of_ble_eq_true rfl) (sX9_letter e3) rfl ?_
  exact ql_icmp_eq (tgt := 861) dL_law_182 rfl (fun _ => k _ e4) (fun q => absurd rfl q)
set_option maxRecDepth 100000 in
set_option maxHeartbeats 4000000 in
theorem ql_case1 {l : Launch} {g : qv_G} {b L : Nat} {xs : Nat → Int32} {Inv : qv_H → Prop} (hob : ∀ h, Inv h → qv_ob h 7 0 = some ()) (ho : ql_o1 Inv) {i : Nat} (hi : i + 3 < L) (hL : L ≤ 2048) {h : qv_H} (hI : Inv h) (k : ∀ h2, Inv h2 → ql_J l g b L xs 861 [some (.ref 2000), some (.ref 0), some (.ref 45), some (.int (nI i))] [] h2) : ql_J l g b L xs 187 [some (.ref 2000), some (.ref 0), some (.ref 45), some (.int (nI i))] [] h := by
  obtain ⟨r, h1, h2, e1, e2, e3, e4⟩ := ho  h hI
  refine ql_aload_n dL_law_187 (i := 1) rfl rfl ?_
  refine ql_cV (d2 := mX8_land) (o := 0) (ci := 7) (r := some (.int r)) (h2 := h1) (av := []) (st := []) dL_law_188 qM_L_18 qD_X8_land (hob h hI) rfl rfl ⟨by decide, by decide⟩ rfl (Nat.le_of_ble_eq_true rfl) (Nat.le_of_ble_eq_true rfl) (sX8_land e1) rfl ?_
  refine ql_aload_n dL_law_191 (i := 2) rfl rfl ?_
  refine ql_cV (d2 := mX9_land) (o := 45) (ci := 8) (r := some (.int r)) (h2 := h2) (av := []) (st := [.int r]) dL_law_192 qM_L_22 qD_X9_land e2 rfl rfl ⟨by decide, by decide⟩ rfl (Nat.le_of_ble_eq_true rfl) (Nat.le_of_ble_eq_true rfl) (sX9_land e3) rfl ?_
  exact ql_icmp_eq (tgt := 861) dL_law_195 rfl (fun _ => k _ e4) (fun q => absurd rfl q)
set_option maxRecDepth 100000 in
set_option maxHeartbeats 4000000 in
theorem ql_case2 {l : Launch} {g : qv_G} {b L : Nat} {xs : Nat → Int32} {Inv : qv_H → Prop} (hob : ∀ h, Inv h → qv_ob h 7 0 = some ()) (ho : ql_o2 Inv) {i : Nat} (hi : i + 3 < L) (hL : L ≤ 2048) {h : qv_H} (hI : Inv h) (k : ∀ h2, Inv h2 → ql_J l g b L xs 861 [some (.ref 2000), some (.ref 0), some (.ref 45), some (.int (nI i))] [] h2) : ql_J l g b L xs 200 [some (.ref 2000), some (.ref 0), some (.ref 45), some (.int (nI i))] [] h := by
  obtain ⟨r, h1, h2, e1, e2, e3, e4⟩ := ho (xs (nI i + (1 : Int32)).toNatClampNeg) (xs (nI i + (2 : Int32)).toNatClampNeg) h hI
  have b1 : vp_in (nI i + (1 : Int32)) L := by rw [show nI i + (1 : Int32) = nI (i + 1) from nI_add i 1]; exact vp_in_nI (by omega) (by omega)
  have b2 : vp_in (nI i + (2 : Int32)) L := by rw [show nI i + (2 : Int32) = nI (i + 2) from nI_add i 2]; exact vp_in_nI (by omega) (by omega)
  refine ql_aload_n dL_law_200 (i := 1) rfl rfl ?_
  refine ql_aload_n dL_law_201 (i := 0) rfl rfl ?_
  refine ql_iload_n dL_law_202 (i := 3) rfl rfl ?_
  refine ql_iconst (v := (1 : Int32)) dL_law_203 rfl ?_
  refine ql_iadd dL_law_204 ?_
  refine ql_sld dL_law_205 b1 ?_
  refine ql_aload_n dL_law_206 (i := 0) rfl rfl ?_
  refine ql_iload_n dL_law_207 (i := 3) rfl rfl ?_
  refine ql_iconst (v := (2 : Int32)) dL_law_208 rfl ?_
  refine ql_iadd dL_law_209 ?_
  refine ql_sld dL_law_210 b2 ?_
  refine ql_cV (d2 := mX8_road) (o := 0) (ci := 7) (r := some (.int r)) (h2 := h1) (av := [.int (xs (nI i + (1 : Int32)).toNatClampNeg), .int (xs (nI i + (2 : Int32)).toNatClampNeg)]) (st := []) dL_law_211 qM_L_23 qD_X8_road (hob h hI) rfl rfl ⟨by decide, by decide⟩ rfl (Nat.le_of_ble_eq_true rfl) (Nat.le_of_ble_eq_true rfl) (sX8_road e1) rfl ?_
  refine ql_aload_n dL_law_214 (i := 2) rfl rfl ?_
  refine ql_aload_n dL_law_215 (i := 0) rfl rfl ?_
  refine ql_iload_n dL_law_216 (i := 3) rfl rfl ?_
  refine ql_iconst (v := (1 : Int32)) dL_law_217 rfl ?_
  refine ql_iadd dL_law_218 ?_
  refine ql_sld dL_law_219 b1 ?_
  refine ql_aload_n dL_law_220 (i := 0) rfl rfl ?_
  refine ql_iload_n dL_law_221 (i := 3) rfl rfl ?_
  refine ql_iconst (v := (2 : Int32)) dL_law_222 rfl ?_
  refine ql_iadd dL_law_223 ?_
  refine ql_sld dL_law_224 b2 ?_
  refine ql_cV (d2 := mX9_road) (o := 45) (ci := 8) (r := some (.int r)) (h2 := h2) (av := [.int (xs (nI i + (1 : Int32)).toNatClampNeg), .int (xs (nI i + (2 : Int32)).toNatClampNeg)]) (st := [.int r]) dL_law_225 qM_L_27 qD_X9_road e2 rfl rfl ⟨by decide, by decide⟩ rfl (Nat.le_of_ble_eq_true rfl) (Nat.le_of_ble_eq_true rfl) (sX9_road e3) rfl ?_
  exact ql_icmp_eq (tgt := 861) dL_law_228 rfl (fun _ => k _ e4) (fun q => absurd rfl q)
set_option maxRecDepth 100000 in
set_option maxHeartbeats 4000000 in
theorem ql_case3 {l : Launch} {g : qv_G} {b L : Nat} {xs : Nat → Int32} {Inv : qv_H → Prop} (hob : ∀ h, Inv h → qv_ob h 7 0 = some ()) (ho : ql_o3 Inv) {i : Nat} (hi : i + 3 < L) (hL : L ≤ 2048) {h : qv_H} (hI : Inv h) (k : ∀ h2, Inv h2 → ql_J l g b L xs 861 [some (.ref 2000), some (.ref 0), some (.ref 45), some (.int (nI i))] [] h2) : ql_J l g b L xs 233 [some (.ref 2000), some (.ref 0), some (.ref 45), some (.int (nI i))] [] h := by
  obtain ⟨r, h1, h2, e1, e2, e3, e4⟩ := ho (xs (nI i + (1 : Int32)).toNatClampNeg) (xs (nI i + (2 : Int32)).toNatClampNeg) h hI
  have b1 : vp_in (nI i + (1 : Int32)) L := by rw [show nI i + (1 : Int32) = nI (i + 1) from nI_add i 1]; exact vp_in_nI (by omega) (by omega)
  have b2 : vp_in (nI i + (2 : Int32)) L := by rw [show nI i + (2 : Int32) = nI (i + 2) from nI_add i 2]; exact vp_in_nI (by omega) (by omega)
  refine ql_aload_n dL_law_233 (i := 1) rfl rfl ?_
  refine ql_aload_n dL_law_234 (i := 0) rfl rfl ?_
  refine ql_iload_n dL_law_235 (i := 3) rfl rfl ?_
  refine ql_iconst (v := (1 : Int32)) dL_law_236 rfl ?_
  refine ql_iadd dL_law_237 ?_
  refine ql_sld dL_law_238 b1 ?_
  refine ql_aload_n dL_law_239 (i := 0) rfl rfl ?_
  refine ql_iload_n dL_law_240 (i := 3) rfl rfl ?_
  refine ql_iconst (v := (2 : Int32)) dL_law_241 rfl ?_
  refine ql_iadd dL_law_242 ?_
  refine ql_sld dL_law_243 b2 ?_
  refine ql_cV (d2 := mX8_sign) (o := 0) (ci := 7) (r := some (.int r)) (h2 := h1) (av := [.int (xs (nI i + (1 : Int32)).toNatClampNeg), .int (xs (nI i + (2 : Int32)).toNatClampNeg)]) (st := []) dL_law_244 qM_L_28 qD_X8_sign (hob h hI) rfl rfl ⟨by decide, by decide⟩ rfl (Nat.le_of_ble_eq_true rfl) (Nat.le_of_ble_eq_true rfl) (sX8_sign e1) rfl ?_
  refine ql_aload_n dL_law_247 (i := 2) rfl rfl ?_
  refine ql_aload_n dL_law_248 (i := 0) rfl rfl ?_
  refine ql_iload_n dL_law_249 (i := 3) rfl rfl ?_
  refine ql_iconst (v := (1 : Int32)) dL_law_250 rfl ?_
  refine ql_iadd dL_law_251 ?_
  refine ql_sld dL_law_252 b1 ?_
  refine ql_aload_n dL_law_253 (i := 0) rfl rfl ?_
  refine ql_iload_n dL_law_254 (i := 3) rfl rfl ?_
  refine ql_iconst (v := (2 : Int32)) dL_law_255 rfl ?_
  refine ql_iadd dL_law_256 ?_
  refine ql_sld dL_law_257 b2 ?_
  refine ql_cV (d2 := mX9_sign) (o := 45) (ci := 8) (r := some (.int r)) (h2 := h2) (av := [.int (xs (nI i + (1 : Int32)).toNatClampNeg), .int (xs (nI i + (2 : Int32)).toNatClampNeg)]) (st := [.int r]) dL_law_258 qM_L_31 qD_X9_sign e2 rfl rfl ⟨by decide, by decide⟩ rfl (Nat.le_of_ble_eq_true rfl) (Nat.le_of_ble_eq_true rfl) (sX9_sign e3) rfl ?_
  exact ql_icmp_eq (tgt := 861) dL_law_261 rfl (fun _ => k _ e4) (fun q => absurd rfl q)
set_option maxRecDepth 100000 in
set_option maxHeartbeats 4000000 in
theorem ql_case4 {l : Launch} {g : qv_G} {b L : Nat} {xs : Nat → Int32} {Inv : qv_H → Prop} (hob : ∀ h, Inv h → qv_ob h 7 0 = some ()) (ho : ql_o4 Inv) {i : Nat} (hi : i + 3 < L) (hL : L ≤ 2048) {h : qv_H} (hI : Inv h) (k : ∀ h2, Inv h2 → ql_J l g b L xs 861 [some (.ref 2000), some (.ref 0), some (.ref 45), some (.int (nI i))] [] h2) : ql_J l g b L xs 266 [some (.ref 2000), some (.ref 0), some (.ref 45), some (.int (nI i))] [] h := by
  obtain ⟨r, h1, h2, e1, e2, e3, e4⟩ := ho (xs (nI i + (1 : Int32)).toNatClampNeg) h hI
  have b1 : vp_in (nI i + (1 : Int32)) L := by rw [show nI i + (1 : Int32) = nI (i + 1) from nI_add i 1]; exact vp_in_nI (by omega) (by omega)
  refine ql_aload_n dL_law_266 (i := 1) rfl rfl ?_
  refine ql_aload_n dL_law_267 (i := 0) rfl rfl ?_
  refine ql_iload_n dL_law_268 (i := 3) rfl rfl ?_
  refine ql_iconst (v := (1 : Int32)) dL_law_269 rfl ?_
  refine ql_iadd dL_law_270 ?_
  refine ql_sld dL_law_271 b1 ?_
  refine ql_cV (d2 := mX8_shown) (o := 0) (ci := 7) (r := some (.int r)) (h2 := h1) (av := [.int (xs (nI i + (1 : Int32)).toNatClampNeg)]) (st := []) dL_law_272 qM_L_32 qD_X8_shown (hob h hI) rfl rfl ⟨by decide, by decide⟩ rfl (Nat.le_of_ble_eq_true rfl) (Nat.le_of_ble_eq_true rfl) (sX8_shown e1) rfl ?_
  refine ql_aload_n dL_law_275 (i := 2) rfl rfl ?_
  refine ql_aload_n dL_law_276 (i := 0) rfl rfl ?_
  refine ql_iload_n dL_law_277 (i := 3) rfl rfl ?_
  refine ql_iconst (v := (1 : Int32)) dL_law_278 rfl ?_
  refine ql_iadd dL_law_279 ?_
  refine ql_sld dL_law_280 b1 ?_
  refine ql_cV (d2 := mX9_shown) (o := 45) (ci := 8) (r := some (.int r)) (h2 := h2) (av := [.int (xs (nI i + (1 : Int32)).toNatClampNeg)]) (st := [.int r]) dL_law_281 qM_L_35 qD_X9_shown e2 rfl rfl ⟨by decide, by decide⟩ rfl (Nat.le_of_ble_eq_true rfl) (Nat.le_of_ble_eq_true rfl) (sX9_shown e3) rfl ?_
  exact ql_icmp_eq (tgt := 861) dL_law_284 rfl (fun _ => k _ e4) (fun q => absurd rfl q)
set_option maxRecDepth 100000 in
set_option maxHeartbeats 4000000 in
theorem ql_case5 {l : Launch} {g : qv_G} {b L : Nat} {xs : Nat → Int32} {Inv : qv_H → Prop} (hob : ∀ h, Inv h → qv_ob h 7 0 = some ()) (ho : ql_o5 Inv) {i : Nat} (hi : i + 3 < L) (hL : L ≤ 2048) {h : qv_H} (hI : Inv h) (k : ∀ h2, Inv h2 → ql_J l g b L xs 861 [some (.ref 2000), some (.ref 0), some (.ref 45), some (.int (nI i))] [] h2) : ql_J l g b L xs 289 [some (.ref 2000), some (.ref 0), some (.ref 45), some (.int (nI i))] [] h := by
  obtain ⟨r, h1, h2, e1, e2, e3, e4⟩ := ho (xs (nI i + (1 : Int32)).toNatClampNeg) h hI
  have b1 : vp_in (nI i + (1 : Int32)) L := by rw [show nI i + (1 : Int32) = nI (i + 1) from nI_add i 1]; exact vp_in_nI (by omega) (by omega)
  refine ql_aload_n dL_law_289 (i := 1) rfl rfl ?_
  refine ql_aload_n dL_law_290 (i := 0) rfl rfl ?_
  refine ql_iload_n dL_law_291 (i := 3) rfl rfl ?_
  refine ql_iconst (v := (1 : Int32)) dL_law_292 rfl ?_
  refine ql_iadd dL_law_293 ?_
  refine ql_sld dL_law_294 b1 ?_
  refine ql_cV (d2 := mX8_fits) (o := 0) (ci := 7) (r := some (.int r)) (h2 := h1) (av := [.int (xs (nI i + (1 : Int32)).toNatClampNeg)]) (st := []) dL_law_295 qM_L_36 qD_X8_fits (hob h hI) rfl rfl ⟨by decide, by decide⟩ rfl (Nat.le_of_ble_eq_true rfl) (Nat.le_of_ble_eq_true rfl) (sX8_fits e1) rfl ?_
  refine ql_aload_n dL_law_298 (i := 2) rfl rfl ?_
  refine ql_aload_n dL_law_299 (i := 0) rfl rfl ?_
  refine ql_iload_n dL_law_300 (i := 3) rfl rfl ?_
  refine ql_iconst (v := (1 : Int32)) dL_law_301 rfl ?_
  refine ql_iadd dL_law_302 ?_
  refine ql_sld dL_law_303 b1 ?_
  refine ql_cV (d2 := mX9_fits) (o := 45) (ci := 8) (r := some (.int r)) (h2 := h2) (av := [.int (xs (nI i + (1 : Int32)).toNatClampNeg)]) (st := [.int r]) dL_law_304 qM_L_39 qD_X9_fits e2 rfl rfl ⟨by decide, by decide⟩ rfl (Nat.le_of_ble_eq_true rfl) (Nat.le_of_ble_eq_true rfl) (sX9_fits e3) rfl ?_
  exact ql_icmp_eq (tgt := 861) dL_law_307 rfl (fun _ => k _ e4) (fun q => absurd rfl q)
set_option maxRecDepth 100000 in
set_option maxHeartbeats 4000000 in
theorem ql_case6 {l : Launch} {g : qv_G} {b L : Nat} {xs : Nat → Int32} {Inv : qv_H → Prop} (hob : ∀ h, Inv h → qv_ob h 7 0 = some ()) (ho : ql_o6 Inv) {i : Nat} (hi : i + 3 < L) (hL : L ≤ 2048) {h : qv_H} (hI : Inv h) (k : ∀ h2, Inv h2 → ql_J l g b L xs 861 [some (.ref 2000), some (.ref 0), some (.ref 45), some (.int (nI i))] [] h2) : ql_J l g b L xs 312 [some (.ref 2000), some (.ref 0), some (.ref 45), some (.int (nI i))] [] h := by
  obtain ⟨r, h1, h2, e1, e2, e3, e4⟩ := ho (xs (nI i + (1 : Int32)).toNatClampNeg) h hI
  have b1 : vp_in (nI i + (1 : Int32)) L := by rw [show nI i + (1 : Int32) = nI (i + 1) from nI_add i 1]; exact vp_in_nI (by omega) (by omega)
  refine ql_aload_n dL_law_312 (i := 1) rfl rfl ?_
  refine ql_aload_n dL_law_313 (i := 0) rfl rfl ?_
  refine ql_iload_n dL_law_314 (i := 3) rfl rfl ?_
  refine ql_iconst (v := (1 : Int32)) dL_law_315 rfl ?_
  refine ql_iadd dL_law_316 ?_
  refine ql_sld dL_law_317 b1 ?_
  refine ql_cV (d2 := mX8_good) (o := 0) (ci := 7) (r := some (.int r)) (h2 := h1) (av := [.int (xs (nI i + (1 : Int32)).toNatClampNeg)]) (st := []) dL_law_318 qM_L_40 qD_X8_good (hob h hI) rfl rfl ⟨by decide, by decide⟩ rfl (Nat.le_of_ble_eq_true rfl) (Nat.le_of_ble_eq_true rfl) (sX8_good e1) rfl ?_
  refine ql_aload_n dL_law_321 (i := 2) rfl rfl ?_
  refine ql_aload_n dL_law_322 (i := 0) rfl rfl ?_
  refine ql_iload_n dL_law_323 (i := 3) rfl rfl ?_
  refine ql_iconst (v := (1 : Int32)) dL_law_324 rfl ?_
  refine ql_iadd dL_law_325 ?_
  refine ql_sld dL_law_326 b1 ?_
  refine ql_cV (d2 := mX9_good) (o := 45) (ci := 8) (r := some (.int r)) (h2 := h2) (av := [.int (xs (nI i + (1 : Int32)).toNatClampNeg)]) (st := [.int r]) dL_law_327 qM_L_43 qD_X9_good e2 rfl rfl ⟨by decide, by decide⟩ rfl (Nat.le_of_ble_eq_true rfl) (Nat.le_of_ble_eq_true rfl) (sX9_good e3) rfl ?_
  exact ql_icmp_eq (tgt := 861) dL_law_330 rfl (fun _ => k _ e4) (fun q => absurd rfl q)
set_option maxRecDepth 100000 in
set_option maxHeartbeats 4000000 in
theorem ql_case7 {l : Launch} {g : qv_G} {b L : Nat} {xs : Nat → Int32} {Inv : qv_H → Prop} (hob : ∀ h, Inv h → qv_ob h 7 0 = some ()) (ho : ql_o7 Inv) {i : Nat} (hi : i + 3 < L) (hL : L ≤ 2048) {h : qv_H} (hI : Inv h) (k : ∀ h2, Inv h2 → ql_J l g b L xs 861 [some (.ref 2000), some (.ref 0), some (.ref 45), some (.int (nI i))] [] h2) : ql_J l g b L xs 335 [some (.ref 2000), some (.ref 0), some (.ref 45), some (.int (nI i))] [] h := by
  obtain ⟨r, h1, h2, e1, e2, e3, e4⟩ := ho (xs (nI i + (1 : Int32)).toNatClampNeg) (xs (nI i + (2 : Int32)).toNatClampNeg) h hI
  have b1 : vp_in (nI i + (1 : Int32)) L := by rw [show nI i + (1 : Int32) = nI (i + 1) from nI_add i 1]; exact vp_in_nI (by omega) (by omega)
  have b2 : vp_in (nI i + (2 : Int32)) L := by rw [show nI i + (2 : Int32) = nI (i + 2) from nI_add i 2]; exact vp_in_nI (by omega) (by omega)
  refine ql_aload_n dL_law_335 (i := 1) rfl rfl ?_
  refine ql_aload_n dL_law_336 (i := 0) rfl rfl ?_
  refine ql_iload_n dL_law_337 (i := 3) rfl rfl ?_
  refine ql_iconst (v := (1 : Int32)) dL_law_338 rfl ?_
  refine ql_iadd dL_law_339 ?_
  refine ql_sld dL_law_340 b1 ?_
  refine ql_aload_n dL_law_341 (i := 0) rfl rfl ?_
  refine ql_iload_n dL_law_342 (i := 3) rfl rfl ?_
  refine ql_iconst (v := (2 : Int32)) dL_law_343 rfl ?_
  refine ql_iadd dL_law_344 ?_
  refine ql_sld dL_law_345 b2 ?_
  refine ql_cV (d2 := mX8_says) (o := 0) (ci := 7) (r := some (.int r)) (h2 := h1) (av := [.int (xs (nI i + (1 : Int32)).toNatClampNeg), .int (xs (nI i + (2 : Int32)).toNatClampNeg)]) (st := []) dL_law_346 qM_L_44 qD_X8_says (hob h hI) rfl rfl ⟨by decide, by decide⟩ rfl (Nat.le_of_ble_eq_true rfl) (Nat.le_of_ble_eq_true rfl) (sX8_says e1) rfl ?_
  refine ql_aload_n dL_law_349 (i := 2) rfl rfl ?_
  refine ql_aload_n dL_law_350 (i := 0) rfl rfl ?_
  refine ql_iload_n dL_law_351 (i := 3) rfl rfl ?_
  refine ql_iconst (v := (1 : Int32)) dL_law_352 rfl ?_
  refine ql_iadd dL_law_353 ?_
  refine ql_sld dL_law_354 b1 ?_
  refine ql_aload_n dL_law_355 (i := 0) rfl rfl ?_
  refine ql_iload_n dL_law_356 (i := 3) rfl rfl ?_
  refine ql_iconst (v := (2 : Int32)) dL_law_357 rfl ?_
  refine ql_iadd dL_law_358 ?_
  refine ql_sld dL_law_359 b2 ?_
  refine ql_cV (d2 := mX9_says) (o := 45) (ci := 8) (r := some (.int r)) (h2 := h2) (av := [.int (xs (nI i + (1 : Int32)).toNatClampNeg), .int (xs (nI i + (2 : Int32)).toNatClampNeg)]) (st := [.int r]) dL_law_360 qM_L_47 qD_X9_says e2 rfl rfl ⟨by decide, by decide⟩ rfl (Nat.le_of_ble_eq_true rfl) (Nat.le_of_ble_eq_true rfl) (sX9_says e3) rfl ?_
  exact ql_icmp_eq (tgt := 861) dL_law_363 rfl (fun _ => k _ e4) (fun q => absurd rfl q)
set_option maxRecDepth 100000 in
set_option maxHeartbeats 4000000 in
theorem ql_case8 {l : Launch} {g : qv_G} {b L : Nat} {xs : Nat → Int32} {Inv : qv_H → Prop} (hob : ∀ h, Inv h → qv_ob h 7 0 = some ()) (ho : ql_o8 Inv) {i : Nat} (hi : i + 3 < L) (hL : L ≤ 2048) {h : qv_H} (hI : Inv h) (k : ∀ h2, Inv h2 → ql_J l g b L xs 861 [some (.ref 2000), some (.ref 0), some (.ref 45), some (.int (nI i))] [] h2) : ql_J l g b L xs 368 [some (.ref 2000), some (.ref 0), some (.ref 45), some (.int (nI i))] [] h := by
  obtain ⟨r, h1, h2, e1, e2, e3, e4⟩ := ho (xs (nI i + (1 : Int32)).toNatClampNeg) h hI
  have b1 : vp_in (nI i + (1 : Int32)) L := by rw [show nI i + (1 : Int32) = nI (i + 1) from nI_add i 1]; exact vp_in_nI (by omega) (by omega)
  refine ql_aload_n dL_law_368 (i := 1) rfl rfl ?_
  refine ql_aload_n dL_law_369 (i := 0) rfl rfl ?_
  refine ql_iload_n dL_law_370 (i := 3) rfl rfl ?_
  refine ql_iconst (v := (1 : Int32)) dL_law_371 rfl ?_
  refine ql_iadd dL_law_372 ?_
  refine ql_sld dL_law_373 b1 ?_
  refine ql_cV (d2 := mX8_worlds) (o := 0) (ci := 7) (r := some (.int r)) (h2 := h1) (av := [.int (xs (nI i + (1 : Int32)).toNatClampNeg)]) (st := []) dL_law_374 qM_L_48 qD_X8_worlds (hob h hI) rfl rfl ⟨by decide, by decide⟩ rfl (Nat.le_of_ble_eq_true rfl) (Nat.le_of_ble_eq_true rfl) (sX8_worlds e1) rfl ?_
  refine ql_aload_n dL_law_377 (i := 2) rfl rfl ?_
  refine ql_aload_n dL_law_378 (i := 0) rfl rfl ?_
  refine ql_iload_n dL_law_379 (i := 3) rfl rfl ?_
  refine ql_iconst (v := (1 : Int32)) dL_law_380 rfl ?_
  refine ql_iadd dL_law_381 ?_
  refine ql_sld dL_law_382 b1 ?_
  refine ql_cV (d2 := mX9_worlds) (o := 45) (ci := 8) (r := some (.int r)) (h2 := h2) (av := [.int (xs (nI i + (1 : Int32)).toNatClampNeg)]) (st := [.int r]) dL_law_383 qM_L_51 qD_X9_worlds e2 rfl rfl ⟨by decide, by decide⟩ rfl (Nat.le_of_ble_eq_true rfl) (Nat.le_of_ble_eq_true rfl) (sX9_worlds e3) rfl ?_
  exact ql_icmp_eq (tgt := 861) dL_law_386 rfl (fun _ => k _ e4) (fun q => absurd rfl q)
set_option maxRecDepth 100000 in
set_option maxHeartbeats 4000000 in
theorem ql_case9 {l : Launch} {g : qv_G} {b L : Nat} {xs : Nat → Int32} {Inv : qv_H → Prop} (hob : ∀ h, Inv h → qv_ob h 7 0 = some ()) (ho : ql_o9 Inv) {i : Nat} (hi : i + 3 < L) (hL : L ≤ 2048) {h : qv_H} (hI : Inv h) (k : ∀ h2, Inv h2 → ql_J l g b L xs 861 [some (.ref 2000), some (.ref 0), some (.ref 45), some (.int (nI i))] [] h2) : ql_J l g b L xs 391 [some (.ref 2000), some (.ref 0), some (.ref 45), some (.int (nI i))] [] h := by
  obtain ⟨r, h1, h2, e1, e2, e3, e4⟩ := ho (xs (nI i + (1 : Int32)).toNatClampNeg) (xs (nI i + (2 : Int32)).toNatClampNeg) h hI
  have b1 : vp_in (nI i + (1 : Int32)) L := by rw [show nI i + (1 : Int32) = nI (i + 1) from nI_add i 1]; exact vp_in_nI (by omega) (by omega)
  have b2 : vp_in (nI i + (2 : Int32)) L := by rw [show nI i + (2 : Int32) = nI (i + 2) from nI_add i 2]; exact vp_in_nI (by omega) (by omega)
  refine ql_aload_n dL_law_391 (i := 1) rfl rfl ?_
  refine ql_aload_n dL_law_392 (i := 0) rfl rfl ?_
  refine ql_iload_n dL_law_393 (i := 3) rfl rfl ?_
  refine ql_iconst (v := (1 : Int32)) dL_law_394 rfl ?_
  refine ql_iadd dL_law_395 ?_
  refine ql_sld dL_law_396 b1 ?_
  refine ql_aload_n dL_law_397 (i := 0) rfl rfl ?_
  refine ql_iload_n dL_law_398 (i := 3) rfl rfl ?_
  refine ql_iconst (v := (2 : Int32)) dL_law_399 rfl ?_
  refine ql_iadd dL_law_400 ?_
  refine ql_sld dL_law_401 b2 ?_
  refine ql_cV (d2 := mX8_fact) (o := 0) (ci := 7) (r := some (.int r)) (h2 := h1) (av := [.int (xs (nI i + (1 : Int32)).toNatClampNeg), .int (xs (nI i + (2 : Int32)).toNatClampNeg)]) (st := []) dL_law_402 qM_L_52 qD_X8_fact (hob h hI) rfl rfl ⟨by decide, by decide⟩ rfl (Nat.le_of_ble_eq_true rfl) (Nat.le_of_ble_eq_true rfl) (sX8_fact e1) rfl ?_
  refine ql_aload_n dL_law_405 (i := 2) rfl rfl ?_
  refine ql_aload_n dL_law_406 (i := 0) rfl rfl ?_
  refine ql_iload_n dL_law_407 (i := 3) rfl rfl ?_
  refine ql_iconst (v := (1 : Int32)) dL_law_408 rfl ?_
  refine ql_iadd dL_law_409 ?_
  refine ql_sld dL_law_410 b1 ?_
  refine ql_aload_n dL_law_411 (i := 0) rfl rfl ?_
  refine ql_iload_n dL_law_412 (i := 3) rfl rfl ?_
  refine ql_iconst (v := (2 : Int32)) dL_law_413 rfl ?_
  refine ql_iadd dL_law_414 ?_
  refine ql_sld dL_law_415 b2 ?_
  refine ql_cV (d2 := mX9_fact) (o := 45) (ci := 8) (r := some (.int r)) (h2 := h2) (av := [.int (xs (nI i + (1 : Int32)).toNatClampNeg), .int (xs (nI i + (2 : Int32)).toNatClampNeg)]) (st := [.int r]) dL_law_416 qM_L_55 qD_X9_fact e2 rfl rfl ⟨by decide, by decide⟩ rfl (Nat.le_of_ble_eq_true rfl) (Nat.le_of_ble_eq_true rfl) (sX9_fact e3) rfl ?_
  exact ql_icmp_eq (tgt := 861) dL_law_419 rfl (fun _ => k _ e4) (fun q => absurd rfl q)
set_option maxRecDepth 100000 in
set_option maxHeartbeats 4000000 in
theorem ql_case10 {l : Launch} {g : qv_G} {b L : Nat} {xs : Nat → Int32} {Inv : qv_H → Prop} (hob : ∀ h, Inv h → qv_ob h 7 0 = some ()) (ho : ql_o10 Inv) {i : Nat} (hi : i + 3 < L) (hL : L ≤ 2048) {h : qv_H} (hI : Inv h) (k : ∀ h2, Inv h2 → ql_J l g b L xs 861 [some (.ref 2000), some (.ref 0), some (.ref 45), some (.int (nI i))] [] h2) : ql_J l g b L xs 424 [some (.ref 2000), some (.ref 0), some (.ref 45), some (.int (nI i))] [] h := by
  obtain ⟨r, h1, h2, e1, e2, e3, e4⟩ := ho (xs (nI i + (1 : Int32)).toNatClampNeg) (xs (nI i + (2 : Int32)).toNatClampNeg) h hI
  have b1 : vp_in (nI i + (1 : Int32)) L := by rw [show nI i + (1 : Int32) = nI (i + 1) from nI_add i 1]; exact vp_in_nI (by omega) (by omega)
  have b2 : vp_in (nI i + (2 : Int32)) L := by rw [show nI i + (2 : Int32) = nI (i + 2) from nI_add i 2]; exact vp_in_nI (by omega) (by omega)
  refine ql_aload_n dL_law_424 (i := 1) rfl rfl ?_
  refine ql_aload_n dL_law_425 (i := 0) rfl rfl ?_
  refine ql_iload_n dL_law_426 (i := 3) rfl rfl ?_
  refine ql_iconst (v := (1 : Int32)) dL_law_427 rfl ?_
  refine ql_iadd dL_law_428 ?_
  refine ql_sld dL_law_429 b1 ?_
  refine ql_aload_n dL_law_430 (i := 0) rfl rfl ?_
  refine ql_iload_n dL_law_431 (i := 3) rfl rfl ?_
  refine ql_iconst (v := (2 : Int32)) dL_law_432 rfl ?_
  refine ql_iadd dL_law_433 ?_
  refine ql_sld dL_law_434 b2 ?_
  refine ql_cV (d2 := mX8_way) (o := 0) (ci := 7) (r := some (.int r)) (h2 := h1) (av := [.int (xs (nI i + (1 : Int32)).toNatClampNeg), .int (xs (nI i + (2 : Int32)).toNatClampNeg)]) (st := []) dL_law_435 qM_L_56 qD_X8_way (hob h hI) rfl rfl ⟨by decide, by decide⟩ rfl (Nat.le_of_ble_eq_true rfl) (Nat.le_of_ble_eq_true rfl) (sX8_way e1) rfl ?_
  refine ql_aload_n dL_law_438 (i := 2) rfl rfl ?_
  refine ql_aload_n dL_law_439 (i := 0) rfl rfl ?_
  refine ql_iload_n dL_law_440 (i := 3) rfl rfl ?_
  refine ql_iconst (v := (1 : Int32)) dL_law_441 rfl ?_
  refine ql_iadd dL_law_442 ?_
  refine ql_sld dL_law_443 b1 ?_
  refine ql_aload_n dL_law_444 (i := 0) rfl rfl ?_
  refine ql_iload_n dL_law_445 (i := 3) rfl rfl ?_
  refine ql_iconst (v := (2 : Int32)) dL_law_446 rfl ?_
  refine ql_iadd dL_law_447 ?_
  refine ql_sld dL_law_448 b2 ?_
  refine ql_cV (d2 := mX9_way) (o := 45) (ci := 8) (r := some (.int r)) (h2 := h2) (av := [.int (xs (nI i + (1 : Int32)).toNatClampNeg), .int (xs (nI i + (2 : Int32)).toNatClampNeg)]) (st := [.int r]) dL_law_449 qM_L_59 qD_X9_way e2 rfl rfl ⟨by decide, by decide⟩ rfl (Nat.le_of_ble_eq_true rfl) (Nat.le_of_ble_eq_true rfl) (sX9_way e3) rfl ?_
  exact ql_icmp_eq (tgt := 861) dL_law_452 rfl (fun _ => k _ e4) (fun q => absurd rfl q)
set_option maxRecDepth 100000 in
set_option maxHeartbeats 4000000 in
theorem ql_case11 {l : Launch} {g : qv_G} {b L : Nat} {xs : Nat → Int32} {Inv : qv_H → Prop} (hob : ∀ h, Inv h → qv_ob h 7 0 = some ()) (ho : ql_o11 Inv) {i : Nat} (hi : i + 3 < L) (hL : L ≤ 2048) {h : qv_H} (hI : Inv h) (k : ∀ h2, Inv h2 → ql_J l g b L xs 861 [some (.ref 2000), some (.ref 0), some (.ref 45), some (.int (nI i))] [] h2) : ql_J l g b L xs 457 [some (.ref 2000), some (.ref 0), some (.ref 45), some (.int (nI i))] [] h := by
  obtain ⟨r, h1, h2, e1, e2, e3, e4⟩ := ho  h hI
  refine ql_aload_n dL_law_457 (i := 1) rfl rfl ?_
  refine ql_cV (d2 := mX8_forget) (o := 0) (ci := 7) (r := some (.int r)) (h2 := h1) (av := []) (st := []) dL_law_458 qM_L_60 qD_X8_forget (hob h hI) rfl rfl ⟨by decide, by decide⟩ rfl (Nat.le_of_ble_eq_true rfl) (Nat.le_of_ble_eq_true rfl) (sX8_forget e1) rfl ?_
  refine ql_aload_n dL_law_461 (i := 2) rfl rfl ?_
  refine ql_cV (d2 := mX9_forget) (o := 45) (ci := 8) (r := some (.int r)) (h2 := h2) (av := []) (st := [.int r]) dL_law_462 qM_L_63 qD_X9_forget e2 rfl rfl ⟨by decide, by decide⟩ rfl (Nat.le_of_ble_eq_true rfl) (Nat.le_of_ble_eq_true rfl) (sX9_forget e3) rfl ?_
  exact ql_icmp_eq (tgt := 861) dL_law_465 rfl (fun _ => k _ e4) (fun q => absurd rfl q)
set_option maxRecDepth 100000 in
set_option maxHeartbeats 4000000 in
theorem ql_case12 {l : Launch} {g : qv_G} {b L : Nat} {xs : Nat → Int32} {Inv : qv_H → Prop} (hob : ∀ h, Inv h → qv_ob h 7 0 = some ()) (ho : ql_o12 Inv) {i : Nat} (hi : i + 3 < L) (hL : L ≤ 2048) {h : qv_H} (hI : Inv h) (k : ∀ h2, Inv h2 → ql_J l g b L xs 861 [some (.ref 2000), some (.ref 0), some (.ref 45), some (.int (nI i))] [] h2) : ql_J l g b L xs 470 [some (.ref 2000), some (.ref 0), some (.ref 45), some (.int (nI i))] [] h := by
  obtain ⟨r, h1, h2, e1, e2, e3, e4⟩ := ho (xs (nI i + (1 : Int32)).toNatClampNeg) h hI
  have b1 : vp_in (nI i + (1 : Int32)) L := by rw [show nI i + (1 : Int32) = nI (i + 1) from nI_add i 1]; exact vp_in_nI (by omega) (by omega)
  refine ql_aload_n dL_law_470 (i := 1) rfl rfl ?_
  refine ql_aload_n dL_law_471 (i := 0) rfl rfl ?_
  refine ql_iload_n dL_law_472 (i := 3) rfl rfl ?_
  refine ql_iconst (v := (1 : Int32)) dL_law_473 rfl ?_
  refine ql_iadd dL_law_474 ?_
  refine ql_sld dL_law_475 b1 ?_
  refine ql_cV (d2 := mX8_sure) (o := 0) (ci := 7) (r := some (.int r)) (h2 := h1) (av := [.int (xs (nI i + (1 : Int32)).toNatClampNeg)]) (st := []) dL_law_476 qM_L_64 qD_X8_sure (hob h hI) rfl rfl ⟨by decide, by decide⟩ rfl (Nat.le_of_ble_eq_true rfl) (Nat.le_of_ble_eq_true rfl) (sX8_sure e1) rfl ?_
  refine ql_aload_n dL_law_479 (i := 2) rfl rfl ?_
  refine ql_aload_n dL_law_480 (i := 0) rfl rfl ?_
  refine ql_iload_n dL_law_481 (i := 3) rfl rfl ?_
  refine ql_iconst (v := (1 : Int32)) dL_law_482 rfl ?_
  refine ql_iadd dL_law_483 ?_
  refine ql_sld dL_law_484 b1 ?_
  refine ql_cV (d2 := mX9_sure) (o := 45) (ci := 8) (r := some (.int r)) (h2 := h2) (av := [.int (xs (nI i + (1 : Int32)).toNatClampNeg)]) (st := [.int r]) dL_law_485 qM_L_67 qD_X9_sure e2 rfl rfl ⟨by decide, by decide⟩ rfl (Nat.le_of_ble_eq_true rfl) (Nat.le_of_ble_eq_true rfl) (sX9_sure e3) rfl ?_
  exact ql_icmp_eq (tgt := 861) dL_law_488 rfl (fun _ => k _ e4) (fun q => absurd rfl q)
set_option maxRecDepth 100000 in
set_option maxHeartbeats 4000000 in
theorem ql_case13 {l : Launch} {g : qv_G} {b L : Nat} {xs : Nat → Int32} {Inv : qv_H → Prop} (hob : ∀ h, Inv h → qv_ob h 7 0 = some ()) (ho : ql_o13 Inv) {i : Nat} (hi : i + 3 < L) (hL : L ≤ 2048) {h : qv_H} (hI : Inv h) (k : ∀ h2, Inv h2 → ql_J l g b L xs 861 [some (.ref 2000), some (.ref 0), some (.ref 45), some (.int (nI i))] [] h2) : ql_J l g b L xs 493 [some (.ref 2000), some (.ref 0), some (.ref 45), some (.int (nI i))] [] h := by
  obtain ⟨r, h1, h2, e1, e2, e3, e4⟩ := ho  h hI
  refine ql_aload_n dL_law_493 (i := 1) rfl rfl ?_
  refine ql_cV (d2 := mX8_proof) (o := 0) (ci := 7) (r := some (.int r)) (h2 := h1) (av := []) (st := []) dL_law_494 qM_L_68 qD_X8_proof (hob h hI) rfl rfl ⟨by decide, by decide⟩ rfl (Nat.le_of_ble_eq_true rfl) (Nat.le_of_ble_eq_true rfl) (sX8_proof e1) rfl ?_
  refine ql_aload_n dL_law_497 (i := 2) rfl rfl ?_
  refine ql_cV (d2 := mX9_proof) (o := 45) (ci := 8) (r := some (.int r)) (h2 := h2) (av := []) (st := [.int r]) dL_law_498 qM_L_71 qD_X9_proof e2 rfl rfl ⟨by decide, by decide⟩ rfl (Nat.le_of_ble_eq_true rfl) (Nat.le_of_ble_eq_true rfl) (sX9_proof e3) rfl ?_
  exact ql_icmp_eq (tgt := 861) dL_law_501 rfl (fun _ => k _ e4) (fun q => absurd rfl q)
set_option maxRecDepth 100000 in
set_option maxHeartbeats 4000000 in
theorem ql_case14 {l : Launch} {g : qv_G} {b L : Nat} {xs : Nat → Int32} {Inv : qv_H → Prop} (hob : ∀ h, Inv h → qv_ob h 7 0 = some ()) (ho : ql_o14 Inv) {i : Nat} (hi : i + 3 < L) (hL : L ≤ 2048) {h : qv_H} (hI : Inv h) (k : ∀ h2, Inv h2 → ql_J l g b L xs 861 [some (.ref 2000), some (.ref 0), some (.ref 45), some (.int (nI i))] [] h2) : ql_J l g b L xs 506 [some (.ref 2000), some (.ref 0), some (.ref 45), some (.int (nI i))] [] h := by
  obtain ⟨r, h1, h2, e1, e2, e3, e4⟩ := ho (xs (nI i + (1 : Int32)).toNatClampNeg) (xs (nI i + (2 : Int32)).toNatClampNeg) h hI
  have b1 : vp_in (nI i + (1 : Int32)) L := by rw [show nI i + (1 : Int32) = nI (i + 1) from nI_add i 1]; exact vp_in_nI (by omega) (by omega)
  have b2 : vp_in (nI i + (2 : Int32)) L := by rw [show nI i + (2 : Int32) = nI (i + 2) from nI_add i 2]; exact vp_in_nI (by omega) (by omega)
  refine ql_aload_n dL_law_506 (i := 1) rfl rfl ?_
  refine ql_aload_n dL_law_507 (i := 0) rfl rfl ?_
  refine ql_iload_n dL_law_508 (i := 3) rfl rfl ?_
  refine ql_iconst (v := (1 : Int32)) dL_law_509 rfl ?_
  refine ql_iadd dL_law_510 ?_
  refine ql_sld dL_law_511 b1 ?_
  refine ql_aload_n dL_law_512 (i := 0) rfl rfl ?_
  refine ql_iload_n dL_law_513 (i := 3) rfl rfl ?_
  refine ql_iconst (v := (2 : Int32)) dL_law_514 rfl ?_
  refine ql_iadd dL_law_515 ?_
  refine ql_sld dL_law_516 b2 ?_
  refine ql_cV (d2 := mX8_tells) (o := 0) (ci := 7) (r := some (.int r)) (h2 := h1) (av := [.int (xs (nI i + (1 : Int32)).toNatClampNeg), .int (xs (nI i + (2 : Int32)).toNatClampNeg)]) (st := []) dL_law_517 qM_L_72 qD_X8_tells (hob h hI) rfl rfl ⟨by decide, by decide⟩ rfl (Nat.le_of_ble_eq_true rfl) (Nat.le_of_ble_eq_true rfl) (sX8_tells e1) rfl ?_
  refine ql_aload_n dL_law_520 (i := 2) rfl rfl ?_
  refine ql_aload_n dL_law_521 (i := 0) rfl rfl ?_
  refine ql_iload_n dL_law_522 (i := 3) rfl rfl ?_
  refine ql_iconst (v := (1 : Int32)) dL_law_523 rfl ?_
  refine ql_iadd dL_law_524 ?_
  refine ql_sld dL_law_525 b1 ?_
  refine ql_aload_n dL_law_526 (i := 0) rfl rfl ?_
  refine ql_iload_n dL_law_527 (i := 3) rfl rfl ?_
  refine ql_iconst (v := (2 : Int32)) dL_law_528 rfl ?_
  refine ql_iadd dL_law_529 ?_
  refine ql_sld dL_law_530 b2 ?_
  refine ql_cV (d2 := mX9_tells) (o := 45) (ci := 8) (r := some (.int r)) (h2 := h2) (av := [.int (xs (nI i + (1 : Int32)).toNatClampNeg), .int (xs (nI i + (2 : Int32)).toNatClampNeg)]) (st := [.int r]) dL_law_531 qM_L_75 qD_X9_tells e2 rfl rfl ⟨by decide, by decide⟩ rfl (Nat.le_of_ble_eq_true rfl) (Nat.le_of_ble_eq_true rfl) (sX9_tells e3) rfl ?_
  exact ql_icmp_eq (tgt := 861) dL_law_534 rfl (fun _ => k _ e4) (fun q => absurd rfl q)
set_option maxRecDepth 100000 in
set_option maxHeartbeats 4000000 in
theorem ql_case15 {l : Launch} {g : qv_G} {b L : Nat} {xs : Nat → Int32} {Inv : qv_H → Prop} (hob : ∀ h, Inv h → qv_ob h 7 0 = some ()) (ho : ql_o15 Inv) {i : Nat} (hi : i + 3 < L) (hL : L ≤ 2048) {h : qv_H} (hI : Inv h) (k : ∀ h2, Inv h2 → ql_J l g b L xs 861 [some (.ref 2000), some (.ref 0), some (.ref 45), some (.int (nI i))] [] h2) : ql_J l g b L xs 539 [some (.ref 2000), some (.ref 0), some (.ref 45), some (.int (nI i))] [] h := by
  obtain ⟨r, e1, e2, e3, e4⟩ := ho  h hI
  refine ql_aload_n dL_law_539 (i := 1) rfl rfl ?_
  refine ql_cV (d2 := mX8_rings) (o := 0) (ci := 7) (r := some (.int r)) (h2 := h) (av := []) (st := []) dL_law_540 qM_L_76 qD_X8_rings (hob h hI) rfl rfl ⟨by decide, by decide⟩ rfl (Nat.le_of_ble_eq_true rfl) (Nat.le_of_ble_eq_true rfl) (sX8_rings e1) rfl ?_
  refine ql_aload_n dL_law_543 (i := 2) rfl rfl ?_
  refine ql_cV (d2 := mX9_rings) (o := 45) (ci := 8) (r := some (.int r)) (h2 := h) (av := []) (st := [.int r]) dL_law_544 qM_L_79 qD_X9_rings e2 rfl rfl ⟨by decide, by decide⟩ rfl (Nat.le_of_ble_eq_true rfl) (Nat.le_of_ble_eq_true rfl) (sX9_rings e3) rfl ?_
  exact ql_icmp_eq (tgt := 861) dL_law_547 rfl (fun _ => k _ e4) (fun q => absurd rfl q)
set_option maxRecDepth 100000 in
set_option maxHeartbeats 4000000 in
theorem ql_case16 {l : Launch} {g : qv_G} {b L : Nat} {xs : Nat → Int32} {Inv : qv_H → Prop} (hob : ∀ h, Inv h → qv_ob h 7 0 = some ()) (ho : ql_o16 Inv) {i : Nat} (hi : i + 3 < L) (hL : L ≤ 2048) {h : qv_H} (hI : Inv h) (k : ∀ h2, Inv h2 → ql_J l g b L xs 861 [some (.ref 2000), some (.ref 0), some (.ref 45), some (.int (nI i))] [] h2) : ql_J l g b L xs 552 [some (.ref 2000), some (.ref 0), some (.ref 45), some (.int (nI i))] [] h := by
  obtain ⟨r, h1, h2, e1, e2, e3, e4⟩ := ho (xs (nI i + (1 : Int32)).toNatClampNeg) h hI
  have b1 : vp_in (nI i + (1 : Int32)) L := by rw [show nI i + (1 : Int32) = nI (i + 1) from nI_add i 1]; exact vp_in_nI (by omega) (by omega)
  refine ql_aload_n dL_law_552 (i := 1) rfl rfl ?_
  refine ql_aload_n dL_law_553 (i := 0) rfl rfl ?_
  refine ql_iload_n dL_law_554 (i := 3) rfl rfl ?_
  refine ql_iconst (v := (1 : Int32)) dL_law_555 rfl ?_
  refine ql_iadd dL_law_556 ?_
  refine ql_sld dL_law_557 b1 ?_
  refine ql_cV (d2 := mX8_joking) (o := 0) (ci := 7) (r := some (.int r)) (h2 := h1) (av := [.int (xs (nI i + (1 : Int32)).toNatClampNeg)]) (st := []) dL_law_558 qM_L_80 qD_X8_joking (hob h hI) rfl rfl ⟨by decide, by decide⟩ rfl (Nat.le_of_ble_eq_true rfl) (Nat.le_of_ble_eq_true rfl) (sX8_joking e1) rfl ?_
  refine ql_aload_n dL_law_561 (i := 2) rfl rfl ?_
  refine ql_aload_n dL_law_562 (i := 0) rfl rfl ?_
  refine ql_iload_n dL_law_563 (i := 3) rfl rfl ?_
  refine ql_iconst (v := (1 : Int32)) dL_law_564 rfl ?_
  refine ql_iadd dL_law_565 ?_
  refine ql_sld dL_law_566 b1 ?_
  refine ql_cV (d2 := mX9_joking) (o := 45) (ci := 8) (r := some (.int r)) (h2 := h2) (av := [.int (xs (nI i + (1 : Int32)).toNatClampNeg)]) (st := [.int r]) dL_law_567 qM_L_83 qD_X9_joking e2 rfl rfl ⟨by decide, by decide⟩ rfl (Nat.le_of_ble_eq_true rfl) (Nat.le_of_ble_eq_true rfl) (sX9_joking e3) rfl ?_
  exact ql_icmp_eq (tgt := 861) dL_law_570 rfl (fun _ => k _ e4) (fun q => absurd rfl q)
set_option maxRecDepth 100000 in
set_option maxHeartbeats 4000000 in
theorem ql_case17 {l : Launch} {g : qv_G} {b L : Nat} {xs : Nat → Int32} {Inv : qv_H → Prop} (hob : ∀ h, Inv h → qv_ob h 7 0 = some ()) (ho : ql_o17 Inv) {i : Nat} (hi : i + 3 < L) (hL : L ≤ 2048) {h : qv_H} (hI : Inv h) (k : ∀ h2, Inv h2 → ql_J l g b L xs 861 [some (.ref 2000), some (.ref 0), some (.ref 45), some (.int (nI i))] [] h2) : ql_J l g b L xs 575 [some (.ref 2000), some (.ref 0), some (.ref 45), some (.int (nI i))] [] h := by
  obtain ⟨r, h1, h2, e1, e2, e3, e4⟩ := ho (xs (nI i + (1 : Int32)).toNatClampNeg) h hI
  have b1 : vp_in (nI i + (1 : Int32)) L := by rw [show nI i + (1 : Int32) = nI (i + 1) from nI_add i 1]; exact vp_in_nI (by omega) (by omega)
  refine ql_aload_n dL_law_575 (i := 1) rfl rfl ?_
  refine ql_aload_n dL_law_576 (i := 0) rfl rfl ?_
  refine ql_iload_n dL_law_577 (i := 3) rfl rfl ?_
  refine ql_iconst (v := (1 : Int32)) dL_law_578 rfl ?_
  refine ql_iadd dL_law_579 ?_
  refine ql_sld dL_law_580 b1 ?_
  refine ql_cV (d2 := mX8_bears) (o := 0) (ci := 7) (r := some (.int r)) (h2 := h1) (av := [.int (xs (nI i + (1 : Int32)).toNatClampNeg)]) (st := []) dL_law_581 qM_L_84 qD_X8_bears (hob h hI) rfl rfl ⟨by decide, by decide⟩ rfl (Nat.le_of_ble_eq_true rfl) (Nat.le_of_ble_eq_true rfl) (sX8_bears e1) rfl ?_
  refine ql_aload_n dL_law_584 (i := 2) rfl rfl ?_
  refine ql_aload_n dL_law_585 (i := 0) rfl rfl ?_
  refine ql_iload_n dL_law_586 (i := 3) rfl rfl ?_
  refine ql_iconst (v := (1 : Int32)) dL_law_587 rfl ?_
  refine ql_iadd dL_law_588 ?_
  refine ql_sld dL_law_589 b1 ?_
  refine ql_cV (d2 := mX9_bears) (o := 45) (ci := 8) (r := some (.int r)) (h2 := h2) (av := [.int (xs (nI i + (1 : Int32)).toNatClampNeg)]) (st := [.int r]) dL_law_590 qM_L_87 qD_X9_bears e2 rfl rfl ⟨by decide, by decide⟩ rfl (Nat.le_of_ble_eq_true rfl) (Nat.le_of_ble_eq_true rfl) (sX9_bears e3) rfl ?_
  exact ql_icmp_eq (tgt := 861) dL_law_593 rfl (fun _ => k _ e4) (fun q => absurd rfl q)
set_option maxRecDepth 100000 in
set_option maxHeartbeats 4000000 in
theorem ql_case18 {l : Launch} {g : qv_G} {b L : Nat} {xs : Nat → Int32} {Inv : qv_H → Prop} (hob : ∀ h, Inv h → qv_ob h 7 0 = some ()) (ho : ql_o18 Inv) {i : Nat} (hi : i + 3 < L) (hL : L ≤ 2048) {h : qv_H} (hI : Inv h) (k : ∀ h2, Inv h2 → ql_J l g b L xs 861 [some (.ref 2000), some (.ref 0), some (.ref 45), some (.int (nI i))] [] h2) : ql_J l g b L xs 598 [some (.ref 2000), some (.ref 0), some (.ref 45), some (.int (nI i))] [] h := by
  obtain ⟨r, h1, h2, e1, e2, e3, e4⟩ := ho (xs (nI i + (1 : Int32)).toNatClampNeg) (xs (nI i + (2 : Int32)).toNatClampNeg) h hI
  have b1 : vp_in (nI i + (1 : Int32)) L := by rw [show nI i + (1 : Int32) = nI (i + 1) from nI_add i 1]; exact vp_in_nI (by omega) (by omega)
  have b2 : vp_in (nI i + (2 : Int32)) L := by rw [show nI i + (2 : Int32) = nI (i + 2) from nI_add i 2]; exact vp_in_nI (by omega) (by omega)
  refine ql_aload_n dL_law_598 (i := 1) rfl rfl ?_
  refine ql_aload_n dL_law_599 (i := 0) rfl rfl ?_
  refine ql_iload_n dL_law_600 (i := 3) rfl rfl ?_
  refine ql_iconst (v := (1 : Int32)) dL_law_601 rfl ?_
  refine ql_iadd dL_law_602 ?_
  refine ql_sld dL_law_603 b1 ?_
  refine ql_aload_n dL_law_604 (i := 0) rfl rfl ?_
  refine ql_iload_n dL_law_605 (i := 3) rfl rfl ?_
  refine ql_iconst (v := (2 : Int32)) dL_law_606 rfl ?_
  refine ql_iadd dL_law_607 ?_
  refine ql_sld dL_law_608 b2 ?_
  refine ql_cV (d2 := mX8_fewest) (o := 0) (ci := 7) (r := some (.int r)) (h2 := h1) (av := [.int (xs (nI i + (1 : Int32)).toNatClampNeg), .int (xs (nI i + (2 : Int32)).toNatClampNeg)]) (st := []) dL_law_609 qM_L_88 qD_X8_fewest (hob h hI) rfl rfl ⟨by decide, by decide⟩ rfl (Nat.le_of_ble_eq_true rfl) (Nat.le_of_ble_eq_true rfl) (sX8_fewest e1) rfl ?_
  refine ql_aload_n dL_law_612 (i := 2) rfl rfl ?_
  refine ql_aload_n dL_law_613 (i := 0) rfl rfl ?_
  refine ql_iload_n dL_law_614 (i := 3) rfl rfl ?_
  refine ql_iconst (v := (1 : Int32)) dL_law_615 rfl ?_
  refine ql_iadd dL_law_616 ?_
  refine ql_sld dL_law_617 b1 ?_
  refine ql_aload_n dL_law_618 (i := 0) rfl rfl ?_
  refine ql_iload_n dL_law_619 (i := 3) rfl rfl ?_
  refine ql_iconst (v := (2 : Int32)) dL_law_620 rfl ?_
  refine ql_iadd dL_law_621 ?_
  refine ql_sld dL_law_622 b2 ?_
  refine ql_cV (d2 := mX9_fewest) (o := 45) (ci := 8) (r := some (.int r)) (h2 := h2) (av := [.int (xs (nI i + (1 : Int32)).toNatClampNeg), .int (xs (nI i + (2 : Int32)).toNatClampNeg)]) (st := [.int r]) dL_law_623 qM_L_91 qD_X9_fewest e2 rfl rfl ⟨by decide, by decide⟩ rfl (Nat.le_of_ble_eq_true rfl) (Nat.le_of_ble_eq_true rfl) (sX9_fewest e3) rfl ?_
  exact ql_icmp_eq (tgt := 861) dL_law_626 rfl (fun _ => k _ e4) (fun q => absurd rfl q)
set_option maxRecDepth 100000 in
set_option maxHeartbeats 4000000 in
theorem ql_case19 {l : Launch} {g : qv_G} {b L : Nat} {xs : Nat → Int32} {Inv : qv_H → Prop} (hob : ∀ h, Inv h → qv_ob h 7 0 = some ()) (ho : ql_o19 Inv) {i : Nat} (hi : i + 3 < L) (hL : L ≤ 2048) {h : qv_H} (hI : Inv h) (k : ∀ h2, Inv h2 → ql_J l g b L xs 861 [some (.ref 2000), some (.ref 0), some (.ref 45), some (.int (nI i))] [] h2) : ql_J l g b L xs 631 [some (.ref 2000), some (.ref 0), some (.ref 45), some (.int (nI i))] [] h := by
  obtain ⟨r, h1, h2, e1, e2, e3, e4⟩ := ho (xs (nI i + (1 : Int32)).toNatClampNeg) h hI
  have b1 : vp_in (nI i + (1 : Int32)) L := by rw [show nI i + (1 : Int32) = nI (i + 1) from nI_add i 1]; exact vp_in_nI (by omega) (by omega)
  refine ql_aload_n dL_law_631 (i := 1) rfl rfl ?_
  refine ql_aload_n dL_law_632 (i := 0) rfl rfl ?_
  refine ql_iload_n dL_law_633 (i := 3) rfl rfl ?_
  refine ql_iconst (v := (1 : Int32)) dL_law_634 rfl ?_
  refine ql_iadd dL_law_635 ?_
  refine ql_sld dL_law_636 b1 ?_
  refine ql_cV (d2 := mX8_together) (o := 0) (ci := 7) (r := some (.int r)) (h2 := h1) (av := [.int (xs (nI i + (1 : Int32)).toNatClampNeg)]) (st := []) dL_law_637 qM_L_92 qD_X8_together (hob h hI) rfl rfl ⟨by decide, by decide⟩ rfl (Nat.le_of_ble_eq_true rfl) (Nat.le_of_ble_eq_true rfl) (sX8_together e1) rfl ?_
  refine ql_aload_n dL_law_640 (i := 2) rfl rfl ?_
  refine ql_aload_n dL_law_641 (i := 0) rfl rfl ?_
  refine ql_iload_n dL_law_642 (i := 3) rfl rfl ?_
  refine ql_iconst (v := (1 : Int32)) dL_law_643 rfl ?_
  refine ql_iadd dL_law_644 ?_
  refine ql_sld dL_law_645 b1 ?_
  refine ql_cV (d2 := mX9_together) (o := 45) (ci := 8) (r := some (.int r)) (h2 := h2) (av := [.int (xs (nI i + (1 : Int32)).toNatClampNeg)]) (st := [.int r]) dL_law_646 qM_L_95 qD_X9_together e2 rfl rfl ⟨by decide, by decide⟩ rfl (Nat.le_of_ble_eq_true rfl) (Nat.le_of_ble_eq_true rfl) (sX9_together e3) rfl ?_
  exact ql_icmp_eq (tgt := 861) dL_law_649 rfl (fun _ => k _ e4) (fun q => absurd rfl q)
set_option maxRecDepth 100000 in
set_option maxHeartbeats 4000000 in
theorem ql_case20 {l : Launch} {g : qv_G} {b L : Nat} {xs : Nat → Int32} {Inv : qv_H → Prop} (hob : ∀ h, Inv h → qv_ob h 7 0 = some ()) (ho : ql_o20 Inv) {i : Nat} (hi : i + 3 < L) (hL : L ≤ 2048) {h : qv_H} (hI : Inv h) (k : ∀ h2, Inv h2 → ql_J l g b L xs 861 [some (.ref 2000), some (.ref 0), some (.ref 45), some (.int (nI i))] [] h2) : ql_J l g b L xs 654 [some (.ref 2000), some (.ref 0), some (.ref 45), some (.int (nI i))] [] h := by
  obtain ⟨r, h1, h2, e1, e2, e3, e4⟩ := ho (xs (nI i + (1 : Int32)).toNatClampNeg) (xs (nI i + (2 : Int32)).toNatClampNeg) h hI
  have b1 : vp_in (nI i + (1 : Int32)) L := by rw [show nI i + (1 : Int32) = nI (i + 1) from nI_add i 1]; exact vp_in_nI (by omega) (by omega)
  have b2 : vp_in (nI i + (2 : Int32)) L := by rw [show nI i + (2 : Int32) = nI (i + 2) from nI_add i 2]; exact vp_in_nI (by omega) (by omega)
  refine ql_aload_n dL_law_654 (i := 1) rfl rfl ?_
  refine ql_aload_n dL_law_655 (i := 0) rfl rfl ?_
  refine ql_iload_n dL_law_656 (i := 3) rfl rfl ?_
  refine ql_iconst (v := (1 : Int32)) dL_law_657 rfl ?_
  refine ql_iadd dL_law_658 ?_
  refine ql_sld dL_law_659 b1 ?_
  refine ql_aload_n dL_law_660 (i := 0) rfl rfl ?_
  refine ql_iload_n dL_law_661 (i := 3) rfl rfl ?_
  refine ql_iconst (v := (2 : Int32)) dL_law_662 rfl ?_
  refine ql_iadd dL_law_663 ?_
  refine ql_sld dL_law_664 b2 ?_
  refine ql_cV (d2 := mX8_go) (o := 0) (ci := 7) (r := some (.int r)) (h2 := h1) (av := [.int (xs (nI i + (1 : Int32)).toNatClampNeg), .int (xs (nI i + (2 : Int32)).toNatClampNeg)]) (st := []) dL_law_665 qM_L_96 qD_X8_go (hob h hI) rfl rfl ⟨by decide, by decide⟩ rfl (Nat.le_of_ble_eq_true rfl) (Nat.le_of_ble_eq_true rfl) (sX8_go e1) rfl ?_
  refine ql_aload_n dL_law_668 (i := 2) rfl rfl ?_
  refine ql_aload_n dL_law_669 (i := 0) rfl rfl ?_
  refine ql_iload_n dL_law_670 (i := 3) rfl rfl ?_
  refine ql_iconst (v := (1 : Int32)) dL_law_671 rfl ?_
  refine ql_iadd dL_law_672 ?_
  refine ql_sld dL_law_673 b1 ?_
  refine ql_aload_n dL_law_674 (i := 0) rfl rfl ?_
  refine ql_iload_n dL_law_675 (i := 3) rfl rfl ?_
  refine ql_iconst (v := (2 : Int32)) dL_law_676 rfl ?_
  refine ql_iadd dL_law_677 ?_
  refine ql_sld dL_law_678 b2 ?_
  refine ql_cV (d2 := mX9_go) (o := 45) (ci := 8) (r := some (.int r)) (h2 := h2) (av := [.int (xs (nI i + (1 : Int32)).toNatClampNeg), .int (xs (nI i + (2 : Int32)).toNatClampNeg)]) (st := [.int r]) dL_law_679 qM_L_99 qD_X9_go e2 rfl rfl ⟨by decide, by decide⟩ rfl (Nat.le_of_ble_eq_true rfl) (Nat.le_of_ble_eq_true rfl) (sX9_go e3) rfl ?_
  exact ql_icmp_eq (tgt := 861) dL_law_682 rfl (fun _ => k _ e4) (fun q => absurd rfl q)
set_option maxRecDepth 100000 in
set_option maxHeartbeats 4000000 in
theorem ql_case21 {l : Launch} {g : qv_G} {b L : Nat} {xs : Nat → Int32} {Inv : qv_H → Prop} (hob : ∀ h, Inv h → qv_ob h 7 0 = some ()) (ho : ql_o21 Inv) {i : Nat} (hi : i + 3 < L) (hL : L ≤ 2048) {h : qv_H} (hI : Inv h) (k : ∀ h2, Inv h2 → ql_J l g b L xs 861 [some (.ref 2000), some (.ref 0), some (.ref 45), some (.int (nI i))] [] h2) : ql_J l g b L xs 687 [some (.ref 2000), some (.ref 0), some (.ref 45), some (.int (nI i))] [] h := by
  obtain ⟨r, h1, h2, e1, e2, e3, e4⟩ := ho (xs (nI i + (1 : Int32)).toNatClampNeg) h hI
  have b1 : vp_in (nI i + (1 : Int32)) L := by rw [show nI i + (1 : Int32) = nI (i + 1) from nI_add i 1]; exact vp_in_nI (by omega) (by omega)
  refine ql_aload_n dL_law_687 (i := 1) rfl rfl ?_
  refine ql_aload_n dL_law_688 (i := 0) rfl rfl ?_
  refine ql_iload_n dL_law_689 (i := 3) rfl rfl ?_
  refine ql_iconst (v := (1 : Int32)) dL_law_690 rfl ?_
  refine ql_iadd dL_law_691 ?_
  refine ql_sld dL_law_692 b1 ?_
  refine ql_cV (d2 := mX8_row) (o := 0) (ci := 7) (r := some (.int r)) (h2 := h1) (av := [.int (xs (nI i + (1 : Int32)).toNatClampNeg)]) (st := []) dL_law_693 qM_L_100 qD_X8_row (hob h hI) rfl rfl ⟨by decide, by decide⟩ rfl (Nat.le_of_ble_eq_true rfl) (Nat.le_of_ble_eq_true rfl) (sX8_row e1) rfl ?_
  refine ql_aload_n dL_law_696 (i := 2) rfl rfl ?_
  refine ql_aload_n dL_law_697 (i := 0) rfl rfl ?_
  refine ql_iload_n dL_law_698 (i := 3) rfl rfl ?_
  refine ql_iconst (v := (1 : Int32)) dL_law_699 rfl ?_
  refine ql_iadd dL_law_700 ?_
  refine ql_sld dL_law_701 b1 ?_
  refine ql_cV (d2 := mX9_row) (o := 45) (ci := 8) (r := some (.int r)) (h2 := h2) (av := [.int (xs (nI i + (1 : Int32)).toNatClampNeg)]) (st := [.int r]) dL_law_702 qM_L_103 qD_X9_row e2 rfl rfl ⟨by decide, by decide⟩ rfl (Nat.le_of_ble_eq_true rfl) (Nat.le_of_ble_eq_true rfl) (sX9_row e3) rfl ?_
  exact ql_icmp_eq (tgt := 861) dL_law_705 rfl (fun _ => k _ e4) (fun q => absurd rfl q)
set_option maxRecDepth 100000 in
set_option maxHeartbeats 4000000 in
theorem ql_case22 {l : Launch} {g : qv_G} {b L : Nat} {xs : Nat → Int32} {Inv : qv_H → Prop} (hob : ∀ h, Inv h → qv_ob h 7 0 = some ()) (ho : ql_o22 Inv) {i : Nat} (hi : i + 3 < L) (hL : L ≤ 2048) {h : qv_H} (hI : Inv h) (k : ∀ h2, Inv h2 → ql_J l g b L xs 861 [some (.ref 2000), some (.ref 0), some (.ref 45), some (.int (nI i))] [] h2) : ql_J l g b L xs 710 [some (.ref 2000), some (.ref 0), some (.ref 45), some (.int (nI i))] [] h := by
  obtain ⟨r, h1, h2, e1, e2, e3, e4⟩ := ho (xs (nI i + (1 : Int32)).toNatClampNeg) h hI
  have b1 : vp_in (nI i + (1 : Int32)) L := by rw [show nI i + (1 : Int32) = nI (i + 1) from nI_add i 1]; exact vp_in_nI (by omega) (by omega)
  refine ql_aload_n dL_law_710 (i := 1) rfl rfl ?_
  refine ql_aload_n dL_law_711 (i := 0) rfl rfl ?_
  refine ql_iload_n dL_law_712 (i := 3) rfl rfl ?_
  refine ql_iconst (v := (1 : Int32)) dL_law_713 rfl ?_
  refine ql_iadd dL_law_714 ?_
  refine ql_sld dL_law_715 b1 ?_
  refine ql_cV (d2 := mX8_book) (o := 0) (ci := 7) (r := some (.int r)) (h2 := h1) (av := [.int (xs (nI i + (1 : Int32)).toNatClampNeg)]) (st := []) dL_law_716 qM_L_104 qD_X8_book (hob h hI) rfl rfl ⟨by decide, by decide⟩ rfl (Nat.le_of_ble_eq_true rfl) (Nat.le_of_ble_eq_true rfl) (sX8_book e1) rfl ?_
  refine ql_aload_n dL_law_719 (i := 2) rfl rfl ?_
  refine ql_aload_n dL_law_720 (i := 0) rfl rfl ?_
  refine ql_iload_n dL_law_721 (i := 3) rfl rfl ?_
  refine ql_iconst (v := (1 : Int32)) dL_law_722 rfl ?_
  refine ql_iadd dL_law_723 ?_
  refine ql_sld dL_law_724 b1 ?_
  refine ql_cV (d2 := mX9_book) (o := 45) (ci := 8) (r := some (.int r)) (h2 := h2) (av := [.int (xs (nI i + (1 : Int32)).toNatClampNeg)]) (st := [.int r]) dL_law_725 qM_L_107 qD_X9_book e2 rfl rfl ⟨by decide, by decide⟩ rfl (Nat.le_of_ble_eq_true rfl) (Nat.le_of_ble_eq_true rfl) (sX9_book e3) rfl ?_
  exact ql_icmp_eq (tgt := 861) dL_law_728 rfl (fun _ => k _ e4) (fun q => absurd rfl q)
set_option maxRecDepth 100000 in
set_option maxHeartbeats 4000000 in
theorem ql_case23 {l : Launch} {g : qv_G} {b L : Nat} {xs : Nat → Int32} {Inv : qv_H → Prop} (hob : ∀ h, Inv h → qv_ob h 7 0 = some ()) (ho : ql_o23 Inv) {i : Nat} (hi : i + 3 < L) (hL : L ≤ 2048) {h : qv_H} (hI : Inv h) (k : ∀ h2, Inv h2 → ql_J l g b L xs 861 [some (.ref 2000), some (.ref 0), some (.ref 45), some (.int (nI i))] [] h2) : ql_J l g b L xs 733 [some (.ref 2000), some (.ref 0), some (.ref 45), some (.int (nI i))] [] h := by
  obtain ⟨r, h2, e1, e2, e3, e4⟩ := ho  h hI
  refine ql_aload_n dL_law_733 (i := 1) rfl rfl ?_
  refine ql_cV (d2 := mX8_next) (o := 0) (ci := 7) (r := some (.int r)) (h2 := h) (av := []) (st := []) dL_law_734 qM_L_108 qD_X8_next (hob h hI) rfl rfl ⟨by decide, by decide⟩ rfl (Nat.le_of_ble_eq_true rfl) (Nat.le_of_ble_eq_true rfl) (sX8_next e1) rfl ?_
  refine ql_aload_n dL_law_737 (i := 2) rfl rfl ?_
  refine ql_cV (d2 := mX9_next) (o := 45) (ci := 8) (r := some (.int r)) (h2 := h2) (av := []) (st := [.int r]) dL_law_738 qM_L_111 qD_X9_next e2 rfl rfl ⟨by decide, by decide⟩ rfl (Nat.le_of_ble_eq_true rfl) (Nat.le_of_ble_eq_true rfl) (sX9_next e3) rfl ?_
  exact ql_icmp_eq (tgt := 861) dL_law_741 rfl (fun _ => k _ e4) (fun q => absurd rfl q)
set_option maxRecDepth 100000 in
set_option maxHeartbeats 4000000 in
theorem ql_case24 {l : Launch} {g : qv_G} {b L : Nat} {xs : Nat → Int32} {Inv : qv_H → Prop} (hob : ∀ h, Inv h → qv_ob h 7 0 = some ()) (ho : ql_o24 Inv) {i : Nat} (hi : i + 3 < L) (hL : L ≤ 2048) {h : qv_H} (hI : Inv h) (k : ∀ h2, Inv h2 → ql_J l g b L xs 861 [some (.ref 2000), some (.ref 0), some (.ref 45), some (.int (nI i))] [] h2) : ql_J l g b L xs 746 [some (.ref 2000), some (.ref 0), some (.ref 45), some (.int (nI i))] [] h := by
  obtain ⟨r, h1, h2, e1, e2, e3, e4⟩ := ho (xs (nI i + (1 : Int32)).toNatClampNeg) (xs (nI i + (2 : Int32)).toNatClampNeg) (xs (nI i + (3 : Int32)).toNatClampNeg) h hI
  have b1 : vp_in (nI i + (1 : Int32)) L := by rw [show nI i + (1 : Int32) = nI (i + 1) from nI_add i 1]; exact vp_in_nI (by omega) (by omega)
  have b2 : vp_in (nI i + (2 : Int32)) L := by rw [show nI i + (2 : Int32) = nI (i + 2) from nI_add i 2]; exact vp_in_nI (by omega) (by omega)
  have b3 : vp_in (nI i + (3 : Int32)) L := by rw [show nI i + (3 : Int32) = nI (i + 3) from nI_add i 3]; exact vp_in_nI (by omega) (by omega)
  refine ql_aload_n dL_law_746 (i := 1) rfl rfl ?_
  refine ql_aload_n dL_law_747 (i := 0) rfl rfl ?_
  refine ql_iload_n dL_law_748 (i := 3) rfl rfl ?_
  refine ql_iconst (v := (1 : Int32)) dL_law_749 rfl ?_
  refine ql_iadd dL_law_750 ?_
  refine ql_sld dL_law_751 b1 ?_
  refine ql_aload_n dL_law_752 (i := 0) rfl rfl ?_
  refine ql_iload_n dL_law_753 (i := 3) rfl rfl ?_
  refine ql_iconst (v := (2 : Int32)) dL_law_754 rfl ?_
  refine ql_iadd dL_law_755 ?_
  refine ql_sld dL_law_756 b2 ?_
  refine ql_aload_n dL_law_757 (i := 0) rfl rfl ?_
  refine ql_iload_n dL_law_758 (i := 3) rfl rfl ?_
  refine ql_iconst (v := (3 : Int32)) dL_law_759 rfl ?_
  refine ql_iadd dL_law_760 ?_
  refine ql_sld dL_law_761 b3 ?_
  refine ql_cV (d2 := mX8_lands) (o := 0) (ci := 7) (r := some (.int r)) (h2 := h1) (av := [.int (xs (nI i + (1 : Int32)).toNatClampNeg), .int (xs (nI i + (2 : Int32)).toNatClampNeg), .int (xs (nI i + (3 : Int32)).toNatClampNeg)]) (st := []) dL_law_762 qM_L_112 qD_X8_lands (hob h hI) rfl rfl ⟨by decide, by decide⟩ rfl (Nat.le_of_ble_eq_true rfl) (Nat.le_of_ble_eq_true rfl) (sX8_lands e1) rfl ?_
  refine ql_aload_n dL_law_765 (i := 2) rfl rfl ?_
  refine ql_aload_n dL_law_766 (i := 0) rfl rfl ?_
  refine ql_iload_n dL_law_767 (i := 3) rfl rfl ?_
  refine ql_iconst (v := (1 : Int32)) dL_law_768 rfl ?_
  refine ql_iadd dL_law_769 ?_
  refine ql_sld dL_law_770 b1 ?_
  refine ql_aload_n dL_law_771 (i := 0) rfl rfl ?_
  refine ql_iload_n dL_law_772 (i := 3) rfl rfl ?_
  refine ql_iconst (v := (2 : Int32)) dL_law_773 rfl ?_
  refine ql_iadd dL_law_774 ?_
  refine ql_sld dL_law_775 b2 ?_
  refine ql_aload_n dL_law_776 (i := 0) rfl rfl ?_
  refine ql_iload_n dL_law_777 (i := 3) rfl rfl ?_
  refine ql_iconst (v := (3 : Int32)) dL_law_778 rfl ?_
  refine ql_iadd dL_law_779 ?_
  refine ql_sld dL_law_780 b3 ?_
  refine ql_cV (d2 := mX9_lands) (o := 45) (ci := 8) (r := some (.int r)) (h2 := h2) (av := [.int (xs (nI i + (1 : Int32)).toNatClampNeg), .int (xs (nI i + (2 : Int32)).toNatClampNeg), .int (xs (nI i + (3 : Int32)).toNatClampNeg)]) (st := [.int r]) dL_law_781 qM_L_116 qD_X9_lands e2 rfl rfl ⟨by decide, by decide⟩ rfl (Nat.le_of_ble_eq_true rfl) (Nat.le_of_ble_eq_true rfl) (sX9_lands e3) rfl ?_
  exact ql_icmp_eq (tgt := 861) dL_law_784 rfl (fun _ => k _ e4) (fun q => absurd rfl q)
set_option maxRecDepth 100000 in
set_option maxHeartbeats 4000000 in
theorem ql_case25 {l : Launch} {g : qv_G} {b L : Nat} {xs : Nat → Int32} {Inv : qv_H → Prop} (hob : ∀ h, Inv h → qv_ob h 7 0 = some ()) (ho : ql_o25 Inv) {i : Nat} (hi : i + 3 < L) (hL : L ≤ 2048) {h : qv_H} (hI : Inv h) (k : ∀ h2, Inv h2 → ql_J l g b L xs 861 [some (.ref 2000), some (.ref 0), some (.ref 45), some (.int (nI i))] [] h2) : ql_J l g b L xs 789 [some (.ref 2000), some (.ref 0), some (.ref 45), some (.int (nI i))] [] h := by
  obtain ⟨r, h1, h2, e1, e2, e3, e4⟩ := ho (xs (nI i + (1 : Int32)).toNatClampNeg) h hI
  have b1 : vp_in (nI i + (1 : Int32)) L := by rw [show nI i + (1 : Int32) = nI (i + 1) from nI_add i 1]; exact vp_in_nI (by omega) (by omega)
  refine ql_aload_n dL_law_789 (i := 1) rfl rfl ?_
  refine ql_aload_n dL_law_790 (i := 0) rfl rfl ?_
  refine ql_iload_n dL_law_791 (i := 3) rfl rfl ?_
  refine ql_iconst (v := (1 : Int32)) dL_law_792 rfl ?_
  refine ql_iadd dL_law_793 ?_
  refine ql_sld dL_law_794 b1 ?_
  refine ql_cV (d2 := mX8_judge) (o := 0) (ci := 7) (r := some (.int r)) (h2 := h1) (av := [.int (xs (nI i + (1 : Int32)).toNatClampNeg)]) (st := []) dL_law_795 qM_L_117 qD_X8_judge (hob h hI) rfl rfl ⟨by decide, by decide⟩ rfl (Nat.le_of_ble_eq_true rfl) (Nat.le_of_ble_eq_true rfl) (sX8_judge e1) rfl ?_
  refine ql_aload_n dL_law_798 (i := 2) rfl rfl ?_
  refine ql_aload_n dL_law_799 (i := 0) rfl rfl ?_
  refine ql_iload_n dL_law_800 (i := 3) rfl rfl ?_
  refine ql_iconst (v := (1 : Int32)) dL_law_801 rfl ?_
  refine ql_iadd dL_law_802 ?_
  refine ql_sld dL_law_803 b1 ?_
  refine ql_cV (d2 := mX9_judge) (o := 45) (ci := 8) (r := some (.int r)) (h2 := h2) (av := [.int (xs (nI i + (1 : Int32)).toNatClampNeg)]) (st := [.int r]) dL_law_804 qM_L_120 qD_X9_judge e2 rfl rfl ⟨by decide, by decide⟩ rfl (Nat.le_of_ble_eq_true rfl) (Nat.le_of_ble_eq_true rfl) (sX9_judge e3) rfl ?_
  exact ql_icmp_eq (tgt := 861) dL_law_807 rfl (fun _ => k _ e4) (fun q => absurd rfl q)
set_option maxRecDepth 100000 in
set_option maxHeartbeats 4000000 in
theorem ql_case26 {l : Launch} {g : qv_G} {b L : Nat} {xs : Nat → Int32} {Inv : qv_H → Prop} (hob : ∀ h, Inv h → qv_ob h 7 0 = some ()) (ho : ql_o26 Inv) {i : Nat} (hi : i + 3 < L) (hL : L ≤ 2048) {h : qv_H} (hI : Inv h) (k : ∀ h2, Inv h2 → ql_J l g b L xs 861 [some (.ref 2000), some (.ref 0), some (.ref 45), some (.int (nI i))] [] h2) : ql_J l g b L xs 812 [some (.ref 2000), some (.ref 0), some (.ref 45), some (.int (nI i))] [] h := by
  obtain ⟨r, h1, h2, e1, e2, e3, e4⟩ := ho  h hI
  refine ql_aload_n dL_law_812 (i := 1) rfl rfl ?_
  refine ql_cV (d2 := mX8_image) (o := 0) (ci := 7) (r := some (.int r)) (h2 := h1) (av := []) (st := []) dL_law_813 qM_L_121 qD_X8_image (hob h hI) rfl rfl ⟨by decide, by decide⟩ rfl (Nat.le_of_ble_eq_true rfl) (Nat.le_of_ble_eq_true rfl) (sX8_image e1) rfl ?_
  refine ql_aload_n dL_law_816 (i := 2) rfl rfl ?_
  refine ql_cV (d2 := mX9_image) (o := 45) (ci := 8) (r := some (.int r)) (h2 := h2) (av := []) (st := [.int r]) dL_law_817 qM_L_124 qD_X9_image e2 rfl rfl ⟨by decide, by decide⟩ rfl (Nat.le_of_ble_eq_true rfl) (Nat.le_of_ble_eq_true rfl) (sX9_image e3) rfl ?_
  exact ql_icmp_eq (tgt := 861) dL_law_820 rfl (fun _ => k _ e4) (fun q => absurd rfl q)
set_option maxRecDepth 100000 in
set_option maxHeartbeats 4000000 in
theorem ql_case27 {l : Launch} {g : qv_G} {b L : Nat} {xs : Nat → Int32} {Inv : qv_H → Prop} (hob : ∀ h, Inv h → qv_ob h 7 0 = some ()) (ho : ql_o27 Inv) {i : Nat} (hi : i + 3 < L) (hL : L ≤ 2048) {h : qv_H} (hI : Inv h) (k : ∀ h2, Inv h2 → ql_J l g b L xs 861 [some (.ref 2000), some (.ref 0), some (.ref 45), some (.int (nI i))] [] h2) : ql_J l g b L xs 825 [some (.ref 2000), some (.ref 0), some (.ref 45), some (.int (nI i))] [] h := by
  obtain ⟨r, h1, h2, e1, e2, e3, e4⟩ := ho  h hI
  refine ql_aload_n dL_law_825 (i := 1) rfl rfl ?_
  refine ql_cV (d2 := mX8_on) (o := 0) (ci := 7) (r := some (.int r)) (h2 := h1) (av := []) (st := []) dL_law_826 qM_L_125 qD_X8_on (hob h hI) rfl rfl ⟨by decide, by decide⟩ rfl (Nat.le_of_ble_eq_true rfl) (Nat.le_of_ble_eq_true rfl) (sX8_on e1) rfl ?_
  refine ql_aload_n dL_law_829 (i := 2) rfl rfl ?_
  refine ql_cV (d2 := mX9_on) (o := 45) (ci := 8) (r := some (.int r)) (h2 := h2) (av := []) (st := [.int r]) dL_law_830 qM_L_128 qD_X9_on e2 rfl rfl ⟨by decide, by decide⟩ rfl (Nat.le_of_ble_eq_true rfl) (Nat.le_of_ble_eq_true rfl) (sX9_on e3) rfl ?_
  exact ql_icmp_eq (tgt := 861) dL_law_833 rfl (fun _ => k _ e4) (fun q => absurd rfl q)
set_option maxRecDepth 100000 in
set_option maxHeartbeats 4000000 in
theorem ql_case28 {l : Launch} {g : qv_G} {b L : Nat} {xs : Nat → Int32} {Inv : qv_H → Prop} (hob : ∀ h, Inv h → qv_ob h 7 0 = some ()) (ho : ql_o28 Inv) {i : Nat} (hi : i + 3 < L) (hL : L ≤ 2048) {h : qv_H} (hI : Inv h) (k : ∀ h2, Inv h2 → ql_J l g b L xs 861 [some (.ref 2000), some (.ref 0), some (.ref 45), some (.int (nI i))] [] h2) : ql_J l g b L xs 838 [some (.ref 2000), some (.ref 0), some (.ref 45), some (.int (nI i))] [] h := by
  obtain ⟨r, h2, e1, e2, e3, e4⟩ := ho (xs (nI i + (1 : Int32)).toNatClampNeg) h hI
  have b1 : vp_in (nI i + (1 : Int32)) L := by rw [show nI i + (1 : Int32) = nI (i + 1) from nI_add i 1]; exact vp_in_nI (by omega) (by omega)
  refine ql_aload_n dL_law_838 (i := 1) rfl rfl ?_
  refine ql_aload_n dL_law_839 (i := 0) rfl rfl ?_
  refine ql_iload_n dL_law_840 (i := 3) rfl rfl ?_
  refine ql_iconst (v := (1 : Int32)) dL_law_841 rfl ?_
  refine ql_iadd dL_law_842 ?_
  refine ql_sld dL_law_843 b1 ?_
  refine ql_cV (d2 := mX8_count) (o := 0) (ci := 7) (r := some (.int r)) (h2 := h) (av := [.int (xs (nI i + (1 : Int32)).toNatClampNeg)]) (st := []) dL_law_844 qM_L_129 qD_X8_count (hob h hI) rfl rfl ⟨by decide, by decide⟩ rfl (Nat.le_of_ble_eq_true rfl) (Nat.le_of_ble_eq_true rfl) (sX8_count e1) rfl ?_
  refine ql_aload_n dL_law_847 (i := 2) rfl rfl ?_
  refine ql_aload_n dL_law_848 (i := 0) rfl rfl ?_
  refine ql_iload_n dL_law_849 (i := 3) rfl rfl ?_
  refine ql_iconst (v := (1 : Int32)) dL_law_850 rfl ?_
  refine ql_iadd dL_law_851 ?_
  refine ql_sld dL_law_852 b1 ?_
  refine ql_cV (d2 := mX9_count) (o := 45) (ci := 8) (r := some (.int r)) (h2 := h2) (av := [.int (xs (nI i + (1 : Int32)).toNatClampNeg)]) (st := [.int r]) dL_law_853 qM_L_132 qD_X9_count e2 rfl rfl ⟨by decide, by decide⟩ rfl (Nat.le_of_ble_eq_true rfl) (Nat.le_of_ble_eq_true rfl) (sX9_count e3) rfl ?_
  exact ql_icmp_eq (tgt := 861) dL_law_856 rfl (fun _ => k _ e4) (fun q => absurd rfl q)
set_option maxRecDepth 100000 in
set_option maxHeartbeats 4000000 in
theorem ql_loop {l : Launch} {g : qv_G} {b L : Nat} {xs : Nat → Int32} {Inv : qv_H → Prop} (ok : ql_Ok Inv) (hL : L ≤ 2048) : ∀ (n i : Nat) (h : qv_H), L + 1 ≤ i + n → i ≤ L + 3 → Inv h → ql_J l g b L xs 18 [some (.ref 2000), some (.ref 0), some (.ref 45), some (.int (nI i))] [] h := by
  obtain ⟨hob, o0, o1, o2, o3, o4, o5, o6, o7, o8, o9, o10, o11, o12, o13, o14, o15, o16, o17, o18, o19, o20, o21, o22, o23, o24, o25, o26, o27, o28⟩ := ok
  intro n
  induction n with
  | zero =>
    intro i h h1 h2 hI
    refine ql_iload_n dL_law_18 (i := 3) rfl rfl ?_
    refine ql_aload_n dL_law_19 (i := 0) rfl rfl ?_
    refine ql_slen dL_law_20 ?_
    refine ql_iconst (v := (4 : Int32)) dL_law_21 rfl ?_
    refine ql_isub dL_law_22 ?_
    refine ql_icmp_gt (tgt := 867) dL_law_23 rfl (fun _ => ?_) (fun q => absurd ?_ q)
    · refine ql_iconst (v := (1 : Int32)) dL_law_867 rfl ?_
      exact ql_ret dL_law_868
    · rw [Int32.lt_iff_toInt_lt, show (4 : Int32) = nI 4 from rfl, show Int32.ofNat L = nI L from rfl, pk_sub_toInt (by omega) (by decide), nI_toInt (by omega)]
      omega
  | succ n ih =>
    intro i h h1 h2 hI
    refine ql_iload_n dL_law_18 (i := 3) rfl rfl ?_
    refine ql_aload_n dL_law_19 (i := 0) rfl rfl ?_
    refine ql_slen dL_law_20 ?_
    refine ql_iconst (v := (4 : Int32)) dL_law_21 rfl ?_
    refine ql_isub dL_law_22 ?_
    refine ql_icmp_gt (tgt := 867) dL_law_23 rfl (fun _ => ?_) (fun q => ?_)
    · refine ql_iconst (v := (1 : Int32)) dL_law_867 rfl ?_
      exact ql_ret dL_law_868
    · have hi : i + 3 < L := by
        rw [Int32.lt_iff_toInt_lt, show (4 : Int32) = nI 4 from rfl, show Int32.ofNat L = nI L from rfl, pk_sub_toInt (by omega) (by decide), nI_toInt (by omega)] at q
        omega
      have b0 : vp_in (nI i) L := vp_in_nI (by omega) (by omega)
      refine ql_aload_n dL_law_26 (i := 0) rfl rfl ?_
      refine ql_iload_n dL_law_27 (i := 3) rfl rfl ?_
      refine ql_sld dL_law_28 b0 ?_
      refine ql_bipush (v := (31 : Int32)) dL_law_29 rfl ?_
      refine ql_iand dL_law_31 ?_
      have next : ∀ h2, Inv h2 → ql_J l g b L xs 861 [some (.ref 2000), some (.ref 0), some (.ref 45), some (.int (nI i))] [] h2 := by
        intro h2 hI2
        refine ql_iinc (v := nI (i + 4)) (lo2 := [some (.ref 2000), some (.ref 0), some (.ref 45), some (.int (nI (i + 4)))]) dL_law_861 rfl ?_ (by decide) rfl rfl ?_
        · show nI i + nI 4 = _
          exact nI_add i 4
        refine ql_goto (tgt := 18) dL_law_864 rfl ?_
        exact ih (i + 4) h2 (by omega) (by omega) hI2
      by_cases c0 : (xs (nI i).toNatClampNeg &&& (31 : Int32)) = (0 : Int32)
      · exact ql_tsIn (tgt := 164) (0 : Int32) c0 dL_law_32 (by decide) (by decide) rfl rfl (ql_case0 hob o0 hi hL hI next)
      by_cases c1 : (xs (nI i).toNatClampNeg &&& (31 : Int32)) = (1 : Int32)
      · exact ql_tsIn (tgt := 187) (1 : Int32) c1 dL_law_32 (by decide) (by decide) rfl rfl (ql_case1 hob o1 hi hL hI next)
      by_cases c2 : (xs (nI i).toNatClampNeg &&& (31 : Int32)) = (2 : Int32)
      · exact ql_tsIn (tgt := 200) (2 : Int32) c2 dL_law_32 (by decide) (by decide) rfl rfl (ql_case2 hob o2 hi hL hI next)
      by_cases c3 : (xs (nI i).toNatClampNeg &&& (31 : Int32)) = (3 : Int32)
      · exact ql_tsIn (tgt := 233) (3 : Int32) c3 dL_law_32 (by decide) (by decide) rfl rfl (ql_case3 hob o3 hi hL hI next)
      by_cases c4 : (xs (nI i).toNatClampNeg &&& (31 : Int32)) = (4 : Int32)
      · exact ql_tsIn (tgt := 266) (4 : Int32) c4 dL_law_32 (by decide) (by decide) rfl rfl (ql_case4 hob o4 hi hL hI next)
      by_cases c5 : (xs (nI i).toNatClampNeg &&& (31 : Int32)) = (5 : Int32)
      · exact ql_tsIn (tgt := 289) (5 : Int32) c5 dL_law_32 (by decide) (by decide) rfl rfl (ql_case5 hob o5 hi hL hI next)
      by_cases c6 : (xs (nI i).toNatClampNeg &&& (31 : Int32)) = (6 : Int32)
      · exact ql_tsIn (tgt := 312) (6 : Int32) c6 dL_law_32 (by decide) (by decide) rfl rfl (ql_case6 hob o6 hi hL hI next)
      by_cases c7 : (xs (nI i).toNatClampNeg &&& (31 : Int32)) = (7 : Int32)
      · exact ql_tsIn (tgt := 335) (7 : Int32) c7 dL_law_32 (by decide) (by decide) rfl rfl (ql_case7 hob o7 hi hL hI next)
      by_cases c8 : (xs (nI i).toNatClampNeg &&& (31 : Int32)) = (8 : Int32)
      · exact ql_tsIn (tgt := 368) (8 : Int32) c8 dL_law_32 (by decide) (by decide) rfl rfl (ql_case8 hob o8 hi hL hI next)
      by_cases c9 : (xs (nI i).toNatClampNeg &&& (31 : Int32)) = (9 : Int32)
      · exact ql_tsIn (tgt := 391) (9 : Int32) c9 dL_law_32 (by decide) (by decide) rfl rfl (ql_case9 hob o9 hi hL hI next)
      by_cases c10 : (xs (nI i).toNatClampNeg &&& (31 : Int32)) = (10 : Int32)
      · exact ql_tsIn (tgt := 424) (10 : Int32) c10 dL_law_32 (by decide) (by decide) rfl rfl (ql_case10 hob o10 hi hL hI next)
      by_cases c11 : (xs (nI i).toNatClampNeg &&& (31 : Int32)) = (11 : Int32)
      · exact ql_tsIn (tgt := 457) (11 : Int32) c11 dL_law_32 (by decide) (by decide) rfl rfl (ql_case11 hob o11 hi hL hI next)
      by_cases c12 : (xs (nI i).toNatClampNeg &&& (31 : Int32)) = (12 : Int32)
      · exact ql_tsIn (tgt := 470) (12 : Int32) c12 dL_law_32 (by decide) (by decide) rfl rfl (ql_case12 hob o12 hi hL hI next)
      by_cases c13 : (xs (nI i).toNatClampNeg &&& (31 : Int32)) = (13 : Int32)
      · exact ql_tsIn (tgt := 493) (13 : Int32) c13 dL_law_32 (by decide) (by decide) rfl rfl (ql_case13 hob o13 hi hL hI next)
      by_cases c14 : (xs (nI i).toNatClampNeg &&& (31 : Int32)) = (14 : Int32)
      · exact ql_tsIn (tgt := 506) (14 : Int32) c14 dL_law_32 (by decide) (by decide) rfl rfl (ql_case14 hob o14 hi hL hI next)
      by_cases c15 : (xs (nI i).toNatClampNeg &&& (31 : Int32)) = (15 : Int32)
      · exact ql_tsIn (tgt := 539) (15 : Int32) c15 dL_law_32 (by decide) (by decide) rfl rfl (ql_case15 hob o15 hi hL hI next)
      by_cases c16 : (xs (nI i).toNatClampNeg &&& (31 : Int32)) = (16 : Int32)
      · exact ql_tsIn (tgt := 552) (16 : Int32) c16 dL_law_32 (by decide) (by decide) rfl rfl (ql_case16 hob o16 hi hL hI next)
      by_cases c17 : (xs (nI i).toNatClampNeg &&& (31 : Int32)) = (17 : Int32)
      · exact ql_tsIn (tgt := 575) (17 : Int32) c17 dL_law_32 (by decide) (by decide) rfl rfl (ql_case17 hob o17 hi hL hI next)
      by_cases c18 : (xs (nI i).toNatClampNeg &&& (31 : Int32)) = (18 : Int32)
      · exact ql_tsIn (tgt := 598) (18 : Int32) c18 dL_law_32 (by decide) (by decide) rfl rfl (ql_case18 hob o18 hi hL hI next)
      by_cases c19 : (xs (nI i).toNatClampNeg &&& (31 : Int32)) = (19 : Int32)
      · exact ql_tsIn (tgt := 631) (19 : Int32) c19 dL_law_32 (by decide) (by decide) rfl rfl (ql_case19 hob o19 hi hL hI next)
      by_cases c20 : (xs (nI i).toNatClampNeg &&& (31 : Int32)) = (20 : Int32)
      · exact ql_tsIn (tgt := 654) (20 : Int32) c20 dL_law_32 (by decide) (by decide) rfl rfl (ql_case20 hob o20 hi hL hI next)
      by_cases c21 : (xs (nI i).toNatClampNeg &&& (31 : Int32)) = (21 : Int32)
      · exact ql_tsIn (tgt := 687) (21 : Int32) c21 dL_law_32 (by decide) (by decide) rfl rfl (ql_case21 hob o21 hi hL hI next)
      by_cases c22 : (xs (nI i).toNatClampNeg &&& (31 : Int32)) = (22 : Int32)
      · exact ql_tsIn (tgt := 710) (22 : Int32) c22 dL_law_32 (by decide) (by decide) rfl rfl (ql_case22 hob o22 hi hL hI next)
      by_cases c23 : (xs (nI i).toNatClampNeg &&& (31 : Int32)) = (23 : Int32)
      · exact ql_tsIn (tgt := 733) (23 : Int32) c23 dL_law_32 (by decide) (by decide) rfl rfl (ql_case23 hob o23 hi hL hI next)
      by_cases c24 : (xs (nI i).toNatClampNeg &&& (31 : Int32)) = (24 : Int32)
      · exact ql_tsIn (tgt := 746) (24 : Int32) c24 dL_law_32 (by decide) (by decide) rfl rfl (ql_case24 hob o24 hi hL hI next)
      by_cases c25 : (xs (nI i).toNatClampNeg &&& (31 : Int32)) = (25 : Int32)
      · exact ql_tsIn (tgt := 789) (25 : Int32) c25 dL_law_32 (by decide) (by decide) rfl rfl (ql_case25 hob o25 hi hL hI next)
      by_cases c26 : (xs (nI i).toNatClampNeg &&& (31 : Int32)) = (26 : Int32)
      · exact ql_tsIn (tgt := 812) (26 : Int32) c26 dL_law_32 (by decide) (by decide) rfl rfl (ql_case26 hob o26 hi hL hI next)
      by_cases c27 : (xs (nI i).toNatClampNeg &&& (31 : Int32)) = (27 : Int32)
      · exact ql_tsIn (tgt := 825) (27 : Int32) c27 dL_law_32 (by decide) (by decide) rfl rfl (ql_case27 hob o27 hi hL hI next)
      by_cases c28 : (xs (nI i).toNatClampNeg &&& (31 : Int32)) = (28 : Int32)
      · exact ql_tsIn (tgt := 838) (28 : Int32) c28 dL_law_32 (by decide) (by decide) rfl rfl (ql_case28 hob o28 hi hL hI next)
      refine ql_tsDef (tgt := 861) dL_law_32 (fun j hj ej => ?_) rfl (next h hI)
      rcases (show j = 0 ∨ j = 1 ∨ j = 2 ∨ j = 3 ∨ j = 4 ∨ j = 5 ∨ j = 6 ∨ j = 7 ∨ j = 8 ∨ j = 9 ∨ j = 10 ∨ j = 11 ∨ j = 12 ∨ j = 13 ∨ j = 14 ∨ j = 15 ∨ j = 16 ∨ j = 17 ∨ j = 18 ∨ j = 19 ∨ j = 20 ∨ j = 21 ∨ j = 22 ∨ j = 23 ∨ j = 24 ∨ j = 25 ∨ j = 26 ∨ j = 27 ∨ j = 28 by omega) with rfl | rfl | rfl | rfl | rfl | rfl | rfl | rfl | rfl | rfl | rfl | rfl | rfl | rfl | rfl | rfl | rfl | rfl | rfl | rfl | rfl | rfl | rfl | rfl | rfl | rfl | rfl | rfl | rfl
      · exact absurd (Int32.toInt_inj.mp (by rw [ej]; rfl)) c0
      · exact absurd (Int32.toInt_inj.mp (by rw [ej]; rfl)) c1
      · exact absurd (Int32.toInt_inj.mp (by rw [ej]; rfl)) c2
      · exact absurd (Int32.toInt_inj.mp (by rw [ej]; rfl)) c3
      · exact absurd (Int32.toInt_inj.mp (by rw [ej]; rfl)) c4
      · exact absurd (Int32.toInt_inj.mp (by rw [ej]; rfl)) c5
      · exact absurd (Int32.toInt_inj.mp (by rw [ej]; rfl)) c6
      · exact absurd (Int32.toInt_inj.mp (by rw [ej]; rfl)) c7
      · exact absurd (Int32.toInt_inj.mp (by rw [ej]; rfl)) c8
      · exact absurd (Int32.toInt_inj.mp (by rw [ej]; rfl)) c9
      · exact absurd (Int32.toInt_inj.mp (by rw [ej]; rfl)) c10
      · exact absurd (Int32.toInt_inj.mp (by rw [ej]; rfl)) c11
      · exact absurd (Int32.toInt_inj.mp (by rw [ej]; rfl)) c12
      · exact absurd (Int32.toInt_inj.mp (by rw [ej]; rfl)) c13
      · exact absurd (Int32.toInt_inj.mp (by rw [ej]; rfl)) c14
      · exact absurd (Int32.toInt_inj.mp (by rw [ej]; rfl)) c15
      · exact absurd (Int32.toInt_inj.mp (by rw [ej]; rfl)) c16
      · exact absurd (Int32.toInt_inj.mp (by rw [ej]; rfl)) c17
      · exact absurd (Int32.toInt_inj.mp (by rw [ej]; rfl)) c18
      · exact absurd (Int32.toInt_inj.mp (by rw [ej]; rfl)) c19
      · exact absurd (Int32.toInt_inj.mp (by rw [ej]; rfl)) c20
      · exact absurd (Int32.toInt_inj.mp (by rw [ej]; rfl)) c21
      · exact absurd (Int32.toInt_inj.mp (by rw [ej]; rfl)) c22
      · exact absurd (Int32.toInt_inj.mp (by rw [ej]; rfl)) c23
      · exact absurd (Int32.toInt_inj.mp (by rw [ej]; rfl)) c24
      · exact absurd (Int32.toInt_inj.mp (by rw [ej]; rfl)) c25
      · exact absurd (Int32.toInt_inj.mp (by rw [ej]; rfl)) c26
      · exact absurd (Int32.toInt_inj.mp (by rw [ej]; rfl)) c27
      · exact absurd (Int32.toInt_inj.mp (by rw [ej]; rfl)) c28
