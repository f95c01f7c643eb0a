theorem op_laws {V : Vk} {g : Hq} (h : Inv V g) (a : Int32) : Op V g (r_X11_laws V 0 a) (r_X12_laws V 70 a) := sorry
theorem op_rounds {V : Vk} {g : Hq} (h : Inv V g) (a : Int32) : Op V g (r_X11_rounds V 0 a) (r_X12_rounds V 70 a) := sorry
theorem op_doubt {V : Vk} {g : Hq} (h : Inv V g) (a b c d e : Int32) : Op V g (r_X11_doubt V 0 a b c d e) (r_X12_doubt V 70 a b c d e) := sorry
theorem lg_same {y : Int64} : lg_cmp y y = 0 := sorry
