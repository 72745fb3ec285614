/-! BLOCKS of fill, at the arrays that it is called with. Written by wip/whole/blocks3.py -/
set_option maxRecDepth 100000 in
theorem bJ7_fill_53178_0_r35  {k : zk_K} {Q : zk_Q} {h : zk_H} {x1 : Int32} (H : k 5 [some (.ref 35), some (.int x1), some (.int (0 : Int32)), some (.int (256 : Int32))] [] h) : zk_R zk_C (zk_lkl []) zk_mt (zk_cxl []) none (zk_at cdJ7_fill_53178) Q [5] k 7 0 [some (.ref 35), some (.int x1), none, none] [] h := H
set_option maxRecDepth 100000 in
theorem bJ7_fill_53178_5_r35  {k : zk_K} {Q : zk_Q} {h : zk_H} {x1 x2 x3 : Int32} (H : ((x3 ≤ x2 → Q.2.2.1 () h) ∧ (¬ x3 ≤ x2 → (vp_in x2 256 ∧ k 5 [some (.ref 35), some (.int x1), some (.int (x2 + (1 : Int32))), some (.int x3)] [] (zk_si h 35 x2.toNatClampNeg x1))))) : zk_R zk_C (zk_lkl []) zk_mt (zk_cxl []) none (zk_at cdJ7_fill_53178) Q [5] k 11 5 [some (.ref 35), some (.int x1), some (.int x2), some (.int x3)] [] h := H
set_option maxRecDepth 100000 in
theorem bJ7_fill_53178_0_r37  {k : zk_K} {Q : zk_Q} {h : zk_H} {x1 : Int32} (H : k 5 [some (.ref 37), some (.int x1), some (.int (0 : Int32)), some (.int (8 : Int32))] [] h) : zk_R zk_C (zk_lkl []) zk_mt (zk_cxl []) none (zk_at cdJ7_fill_53178) Q [5] k 7 0 [some (.ref 37), some (.int x1), none, none] [] h := H
set_option maxRecDepth 100000 in
theorem bJ7_fill_53178_5_r37  {k : zk_K} {Q : zk_Q} {h : zk_H} {x1 x2 x3 : Int32} (H : ((x3 ≤ x2 → Q.2.2.1 () h) ∧ (¬ x3 ≤ x2 → (vp_in x2 8 ∧ k 5 [some (.ref 37), some (.int x1), some (.int (x2 + (1 : Int32))), some (.int x3)] [] (zk_si h 37 x2.toNatClampNeg x1))))) : zk_R zk_C (zk_lkl []) zk_mt (zk_cxl []) none (zk_at cdJ7_fill_53178) Q [5] k 11 5 [some (.ref 37), some (.int x1), some (.int x2), some (.int x3)] [] h := H
set_option maxRecDepth 100000 in
theorem bJ7_fill_53178_0_r39  {k : zk_K} {Q : zk_Q} {h : zk_H} {x1 : Int32} (H : k 5 [some (.ref 39), some (.int x1), some (.int (0 : Int32)), some (.int (8 : Int32))] [] h) : zk_R zk_C (zk_lkl []) zk_mt (zk_cxl []) none (zk_at cdJ7_fill_53178) Q [5] k 7 0 [some (.ref 39), some (.int x1), none, none] [] h := H
set_option maxRecDepth 100000 in
theorem bJ7_fill_53178_5_r39  {k : zk_K} {Q : zk_Q} {h : zk_H} {x1 x2 x3 : Int32} (H : ((x3 ≤ x2 → Q.2.2.1 () h) ∧ (¬ x3 ≤ x2 → (vp_in x2 8 ∧ k 5 [some (.ref 39), some (.int x1), some (.int (x2 + (1 : Int32))), some (.int x3)] [] (zk_si h 39 x2.toNatClampNeg x1))))) : zk_R zk_C (zk_lkl []) zk_mt (zk_cxl []) none (zk_at cdJ7_fill_53178) Q [5] k 11 5 [some (.ref 39), some (.int x1), some (.int x2), some (.int x3)] [] h := H
