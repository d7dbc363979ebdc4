/-! BLOCKS: the engine's rows over a method's own name; made by wip/engine/gen21.py -/
section QEHB
variable {dp : Nat}
theorem sm_pushI {Z : qe_Z} {B : qe_B} {j : Nat} {pc nx : Nat} {nt : qe_N dp} {a : Nat} (hM : zM Z j = B) (n : Nat) (ha : a = 8 * n) (hc : qc_st B pc nx [] [.int (Int32.ofNat n)]) (hn : qx_sn Z j nx nt) : qx_sn Z j pc (ql_push a nt) := by
  subst hM
  exact sn_pushI n ha @hc hn
theorem sm_pushL {Z : qe_Z} {B : qe_B} {j : Nat} {pc nx : Nat} {nt : qe_N dp} {a : Nat} (hM : zM Z j = B) (n : Nat) (ha : a = 8 * n + 1) (hc : qc_st B pc nx [] [.long (Int64.ofNat n)]) (hn : qx_sn Z j nx nt) : qx_sn Z j pc (ql_push a nt) := by
  subst hM
  exact sn_pushL n ha @hc hn
theorem sm_ld {Z : qe_Z} {B : qe_B} {j : Nat} {pc nx : Nat} {nt : qe_N dp} {s a : Nat} (hM : zM Z j = B) (hs : s < 3) (hc : qc_ld B pc nx a s) (ha : a < B.2.2.1) (hn : qx_sn Z j nx nt) : qx_sn Z j pc (ql_ld s a nt) := by
  subst hM
  exact sn_ld hs @hc ha hn
theorem sm_st1 {Z : qe_Z} {B : qe_B} {j : Nat} {pc nx : Nat} {nt : qe_N dp} {s a : Nat} (hM : zM Z j = B) (hs : s < 3) (hc : qc_s1 B pc nx a s) (ha : a < B.2.2.1) (hn : qx_sn Z j nx nt) : qx_sn Z j pc (ql_st1 s a nt) := by
  subst hM
  exact sn_st1 hs @hc ha hn
theorem sm_st2 {Z : qe_Z} {B : qe_B} {j : Nat} {pc nx : Nat} {nt : qe_N dp} {a : Nat} (hM : zM Z j = B) (hc : qc_s2 B pc nx a) (ha : a + 1 < B.2.2.1) (hn : qx_sn Z j nx nt) : qx_sn Z j pc (ql_st2 a nt) := by
  subst hM
  exact sn_st2 @hc ha hn
theorem sm_inc {Z : qe_Z} {B : qe_B} {j : Nat} {pc nx : Nat} {nt : qe_N dp} {a i : Nat} {df : qe_Df} (hM : zM Z j = B) (hd : qe_dok (zE Z).2.2.2 df) (hc : qc_inc B pc nx a (Int32.ofNat i)) (ha : a < B.2.2.1) (hn : qx_sn Z j nx nt) : qx_sn Z j pc (ql_inc df a i nt) := by
  subst hM
  exact sn_inc hd @hc ha hn
theorem sm_bin {Z : qe_Z} {B : qe_B} {j : Nat} {pc nx : Nat} {nt : qe_N dp} {o : Nat} {df : qe_Df} (hM : zM Z j = B) (hd : qe_dok (zE Z).2.2.2 df) (hc : ∀ x y : Int32, qc_st B pc nx [.int y, .int x] [.int (qe_sem o x y)]) (hn : qx_sn Z j nx nt) : qx_sn Z j pc (ql_bin df o nt) := by
  subst hM
  exact sn_bin hd @hc hn
theorem sm_neg {Z : qe_Z} {B : qe_B} {j : Nat} {pc nx : Nat} {nt : qe_N dp} {df : qe_Df} (hM : zM Z j = B) (hd : qe_dok (zE Z).2.2.2 df) (hc : ∀ x : Int32, qc_st B pc nx [.int x] [.int (-x)]) (hn : qx_sn Z j nx nt) : qx_sn Z j pc (ql_neg df nt) := by
  subst hM
  exact sn_neg hd @hc hn
theorem sm_div {Z : qe_Z} {B : qe_B} {j : Nat} {pc nx : Nat} {nt : qe_N dp} (hM : zM Z j = B) (hc : ∀ x y : Int32, ¬ y = 0 → qc_st B pc nx [.int y, .int x] [.int (x / y)]) (hn : qx_sn Z j nx nt) : qx_sn Z j pc (ql_div nt) := by
  subst hM
  exact sn_div @hc hn
theorem sm_i2l {Z : qe_Z} {B : qe_B} {j : Nat} {pc nx : Nat} {nt : qe_N dp} (hM : zM Z j = B) (hc : ∀ x : Int32, qc_st B pc nx [.int x] [.long x.toInt64]) (hn : qx_sn Z j nx nt) : qx_sn Z j pc (ql_i2l nt) := by
  subst hM
  exact sn_i2l @hc hn
theorem sm_lcmp {Z : qe_Z} {B : qe_B} {j : Nat} {pc nx : Nat} {nt : qe_N dp} (hM : zM Z j = B) (hc : ∀ x y : Int64, qc_st B pc nx [.long y, .long x] [.int (lg_cmp x y)]) (hn : qx_sn Z j nx nt) : qx_sn Z j pc (ql_lcmp nt) := by
  subst hM
  exact sn_lcmp @hc hn
theorem sm_dup {Z : qe_Z} {B : qe_B} {j : Nat} {pc nx : Nat} {nt : qe_N dp} (hM : zM Z j = B) (hc : ∀ v : Value, v.category = 1 → qc_st B pc nx [v] [v, v]) (hn : qx_sn Z j nx nt) : qx_sn Z j pc (ql_dup nt) := by
  subst hM
  exact sn_dup @hc hn
theorem sm_pop {Z : qe_Z} {B : qe_B} {j : Nat} {pc nx : Nat} {nt : qe_N dp} (hM : zM Z j = B) (hc : ∀ v : Value, v.category = 1 → qc_st B pc nx [v] []) (hn : qx_sn Z j nx nt) : qx_sn Z j pc (ql_pop nt) := by
  subst hM
  exact sn_pop @hc hn
theorem sm_dup2 {Z : qe_Z} {B : qe_B} {j : Nat} {pc nx : Nat} {nt : qe_N dp} (hM : zM Z j = B) (hc : ∀ v w : Value, v.category = 1 → w.category = 1 → qc_st B pc nx [v, w] [v, w, v, w]) (hn : qx_sn Z j nx nt) : qx_sn Z j pc (ql_dup2 nt) := by
  subst hM
  exact sn_dup2 @hc hn
theorem sm_get {Z : qe_Z} {B : qe_B} {j : Nat} {pc nx : Nat} {nt : qe_N dp} {ci fk : Nat} (hM : zM Z j = B) (hc : qc_get (zc Z) B pc nx ci fk) (hci : ci < 100) (hn : qx_sn Z j nx nt) : qx_sn Z j pc (ql_get ci fk nt) := by
  subst hM
  exact sn_get @hc hci hn
theorem sm_put {Z : qe_Z} {B : qe_B} {j : Nat} {pc nx : Nat} {nt : qe_N dp} {ci fk tc : Nat} {ty : FieldType} (hM : zM Z j = B) (hc : qc_put (zc Z) B pc nx ci fk ty) (hci : ci < 100) (ht : qx_ty tc ty) (hn : qx_sn Z j nx nt) : qx_sn Z j pc (ql_put ci fk tc nt) := by
  subst hM
  exact sn_put @hc hci ht hn
theorem sm_new {Z : qe_Z} {B : qe_B} {j : Nat} {pc nx : Nat} {nt : qe_N dp} {ci N nd : Nat} {fs : List Value} (hM : zM Z j = B) (hc : qc_new (zc Z) B pc nx ci N fs) (hci : ci < 100) (hfs : ∀ (E : qe_E) (ad : Nat → Nat), (List.range N).map (fun k => qe_v E ad (qe_get nd k)) = fs) (hnd : nd < 2 ^ (72 * N)) (hnb : ∀ k, k < N → qe_is 2 (qe_get nd k) = false) (hn : qx_sn Z j nx nt) : qx_sn Z j pc (ql_new ci N nd nt) := by
  subst hM
  exact sn_new @hc hci hfs hnd hnb hn
theorem sm_newi {Z : qe_Z} {B : qe_B} {j : Nat} {pc nx : Nat} {nt : qe_N dp} (hM : zM Z j = B) (hc : qc_newa (zc Z) B pc nx .int (fun N => (N, .inl (fun _ => 0)))) (hn : qx_sn Z j nx nt) : qx_sn Z j pc (ql_newa 100 nt) := by
  subst hM
  exact sn_newi @hc hn
theorem sm_newz {Z : qe_Z} {B : qe_B} {j : Nat} {pc nx : Nat} {nt : qe_N dp} (hM : zM Z j = B) (hc : qc_newa (zc Z) B pc nx .boolean (fun N => (N, .inl (fun _ => 0)))) (hn : qx_sn Z j nx nt) : qx_sn Z j pc (ql_newa 101 nt) := by
  subst hM
  exact sn_newz @hc hn
theorem sm_newl {Z : qe_Z} {B : qe_B} {j : Nat} {pc nx : Nat} {nt : qe_N dp} (hM : zM Z j = B) (hc : qc_newa (zc Z) B pc nx .long (fun N => (N, .inr (.inl (fun _ => 0))))) (hn : qx_sn Z j nx nt) : qx_sn Z j pc (ql_newa 102 nt) := by
  subst hM
  exact sn_newl @hc hn
theorem sm_alen {Z : qe_Z} {B : qe_B} {j : Nat} {pc nx : Nat} {nt : qe_N dp} (hM : zM Z j = B) (hc : qc_alen (zc Z) B pc nx) (hn : qx_sn Z j nx nt) : qx_sn Z j pc (ql_alen nt) := by
  subst hM
  exact sn_alen @hc hn
theorem sm_iald {Z : qe_Z} {B : qe_B} {j : Nat} {pc nx : Nat} {nt : qe_N dp} (hM : zM Z j = B) (hc : qc_iald (zc Z) B pc nx) (hn : qx_sn Z j nx nt) : qx_sn Z j pc (ql_ald 100 nt) := by
  subst hM
  exact sn_iald @hc hn
theorem sm_zald {Z : qe_Z} {B : qe_B} {j : Nat} {pc nx : Nat} {nt : qe_N dp} (hM : zM Z j = B) (hc : qc_zald (zc Z) B pc nx) (hn : qx_sn Z j nx nt) : qx_sn Z j pc (ql_ald 101 nt) := by
  subst hM
  exact sn_zald @hc hn
theorem sm_lald {Z : qe_Z} {B : qe_B} {j : Nat} {pc nx : Nat} {nt : qe_N dp} (hM : zM Z j = B) (hc : qc_lald (zc Z) B pc nx) (hn : qx_sn Z j nx nt) : qx_sn Z j pc (ql_lald nt) := by
  subst hM
  exact sn_lald @hc hn
theorem sm_iast {Z : qe_Z} {B : qe_B} {j : Nat} {pc nx : Nat} {nt : qe_N dp} (hM : zM Z j = B) (hc : qc_iast (zc Z) B pc nx) (hn : qx_sn Z j nx nt) : qx_sn Z j pc (ql_ast 100 1 nt) := by
  subst hM
  exact sn_iast @hc hn
theorem sm_zast {Z : qe_Z} {B : qe_B} {j : Nat} {pc nx : Nat} {nt : qe_N dp} (hM : zM Z j = B) (hc : qc_zast (zc Z) B pc nx) (hn : qx_sn Z j nx nt) : qx_sn Z j pc (ql_ast 101 2 nt) := by
  subst hM
  exact sn_zast @hc hn
theorem sm_last {Z : qe_Z} {B : qe_B} {j : Nat} {pc nx : Nat} {nt : qe_N dp} (hM : zM Z j = B) (hc : qc_last (zc Z) B pc nx) (hn : qx_sn Z j nx nt) : qx_sn Z j pc (ql_ast 102 3 nt) := by
  subst hM
  exact sn_last @hc hn
theorem sm_jmp {Z : qe_Z} {B : qe_B} {f : Nat → Nat} {j : Nat} {pc tg b : Nat} (hM : zM Z j = B) (hp : ∀ b, zp Z j b = f b) (hc : qc_st B pc tg [] []) (hb : f b = tg) : qx_sn Z j pc (ql_jmp b : qe_N dp) := by
  subst hM
  exact sn_jmp (by rw [hp, hb]; exact @hc)
theorem sm_if {Z : qe_Z} {B : qe_B} {f : Nat → Nat} {j : Nat} {pc nx tg o b : Nat} {nt : qe_N dp} (hM : zM Z j = B) (hp : ∀ b, zp Z j b = f b) (hc : qc_if B pc nx tg o) (hb : f b = tg) (hn : qx_sn Z j nx nt) : qx_sn Z j pc (ql_if o b nt) := by
  subst hM
  exact sn_if @hc ((hp b).trans hb) hn
theorem sm_ic {Z : qe_Z} {B : qe_B} {f : Nat → Nat} {j : Nat} {pc nx tg o b : Nat} {nt : qe_N dp} (hM : zM Z j = B) (hp : ∀ b, zp Z j b = f b) (hc : qc_ic B pc nx tg o) (hb : f b = tg) (hn : qx_sn Z j nx nt) : qx_sn Z j pc (ql_ic o b nt) := by
  subst hM
  exact sn_ic @hc ((hp b).trans hb) hn
theorem sm_sw {Z : qe_Z} {B : qe_B} {f : Nat → Nat} {j : Nat} {pc lo df dfp : Nat} {tg tp : List Nat} (hM : zM Z j = B) (hp : ∀ b, zp Z j b = f b) (hc : qc_sw B pc (lo : Int) dfp tp) (hl : lo + tg.length ≤ 2147483648) (hd : f df = dfp) (ht : tg.map f = tp) : qx_sn Z j pc (ql_sw lo df tg : qe_N dp) := by
  subst hM
  exact sn_sw @hc hl ((hp df).trans hd) (by rw [← ht]; exact List.map_congr_left fun b _ => hp b)
theorem sm_fall {Z : qe_Z} {f : Nat → Nat} {j pc b : Nat} (hp : ∀ b, zp Z j b = f b) (hb : f b = pc) : qx_sn Z j pc (ql_jmp b : qe_N dp) := sn_fall ((hp b).trans hb)
theorem sm_inv0 {Z : qe_Z} {B : qe_B} {j pc nx jj na rc mx : Nat} {nt : qe_N dp} (hz : qz_ok Z) (hM : zM Z jj = B) (hjj : qx_mb Z jj) (hc : qc_inv Z j pc nx jj na rc) (hrc : rc = 0 ∨ (rc - 1 < 100 ∧ ∃ q, (zc Z)[rc - 1]? = some q)) (hmx : mx ≤ B.2.2.1) (ho : ∀ c : Code, zT Z j c → ∀ x ∈ c.exceptionTable.toList, False) (hn2 : qx_sn Z j nx nt) : qx_sn Z j pc (ql_inv jj na rc mx true [] nt) := by
  subst hM
  exact sn_inv hz hjj hc hrc hmx (fun z h => absurd h List.not_mem_nil) (fun _ i _ => qk_out fun c h x hx => absurd (ho c h x hx) id) hn2
theorem qn_invV {Z : qe_Z} {B C : qe_B} {j pc idx jj n rc maxL : Nat} {y : MethodName} {bytes : ByteArray} {ret : Option FieldType} (hM : zM Z j = B) (hC : zM Z jj = C) (hin : ∀ w ∈ qw_G, w ∈ B.2.2.2.2.1) (hjj : C = (y, bytes, maxL, ret, Cond.code y bytes maxL ret :: qw_G, y.cls)) (h : decode B.2.1 pc = .ok (.invokevirtual idx, 3)) (w1 : Cond.methodLink B.2.2.2.2.2 idx y ∈ qw_G) (w2 : Cond.instanceMethod y ∈ qw_G) (w3 : Cond.selects y.cls y y ∈ qw_G) (w4 : Cond.initialized y.cls ∈ qw_G) (w5 : Cond.code y bytes maxL ret ∈ qw_G) (hd : qw_d y n) (hrc : rc ≠ 0) (hq : ∃ T N, (zc Z)[rc - 1]? = some (y.cls, T, N)) : qc_inv Z j pc (pc + 3) jj (n + 1) rc := by
  subst hM
  exact qk_invV hin (hC.trans hjj) h w1 w2 w3 w4 w5 hd hrc hq
theorem qn_invS {Z : qe_Z} {B C : qe_B} {j pc idx jj n rc maxL : Nat} {y : MethodName} {bytes : ByteArray} {ret : Option FieldType} (hM : zM Z j = B) (hC : zM Z jj = C) (hin : ∀ w ∈ qw_G, w ∈ B.2.2.2.2.1) (hjj : C = (y, bytes, maxL, ret, Cond.code y bytes maxL ret :: qw_G, y.cls)) (h : decode B.2.1 pc = .ok (.invokestatic idx, 3)) (w1 : Cond.methodLink B.2.2.2.2.2 idx y ∈ qw_G) (w2 : Cond.static y ∈ qw_G) (w4 : Cond.initialized y.cls ∈ qw_G) (w5 : Cond.code y bytes maxL ret ∈ qw_G) (hd : qw_d y n) : qc_inv Z j pc (pc + 3) jj n 0 := by
  subst hM
  exact qk_invS (rc := 0) hin (hC.trans hjj) h w1 w2 w4 w5 hd
theorem qn_invI {Z : qe_Z} {B C : qe_B} {j pc idx jj n rc maxL : Nat} {y : MethodName} {bytes : ByteArray} (hM : zM Z j = B) (hC : zM Z jj = C) (hin : ∀ w ∈ qw_G, w ∈ B.2.2.2.2.1) (hjj : C = (y, bytes, maxL, none, Cond.code y bytes maxL none :: qw_G, y.cls)) (h : decode B.2.1 pc = .ok (.invokespecial idx, 3)) (w1 : Cond.methodLink B.2.2.2.2.2 idx y ∈ qw_G) (w2 : Cond.instanceMethod y ∈ qw_G) (w3 : y.name = "<init>") (w4 : Cond.initialized y.cls ∈ qw_G) (w5 : Cond.code y bytes maxL none ∈ qw_G) (hd : qw_d y n) (hrc : rc ≠ 0) (hq : ∃ T N, (zc Z)[rc - 1]? = some (y.cls, T, N)) : qc_inv Z j pc (pc + 3) jj (n + 1) rc := by
  subst hM
  exact qk_invI hin (hC.trans hjj) h w1 w2 w3 w4 w5 hd hrc hq
theorem qn_invSX {Z : qe_Z} {B C : qe_B} {j pc idx jj n rc maxL : Nat} {y : MethodName} {bytes : ByteArray} {ret : Option FieldType} {hh : List (Nat × Nat × Nat × Nat)} (hM : zM Z j = B) (hC : zM Z jj = C) (hin : ∀ w ∈ qw_G, w ∈ B.2.2.2.2.1) (hjj : C = (y, bytes, maxL, ret, Cond.codeWith y bytes maxL ret hh :: qw_G, y.cls)) (h : decode B.2.1 pc = .ok (.invokestatic idx, 3)) (w1 : Cond.methodLink B.2.2.2.2.2 idx y ∈ qw_G) (w2 : Cond.static y ∈ qw_G) (w4 : Cond.initialized y.cls ∈ qw_G) (w5 : Cond.codeWith y bytes maxL ret hh ∈ qw_G) (hd : qw_d y n) : qc_inv Z j pc (pc + 3) jj n 0 := by
  subst hM
  exact qk_invSX (rc := 0) hin (hC.trans hjj) h w1 w2 w4 w5 hd
theorem qn_invSN {Z : qe_Z} {B C : qe_B} {j pc idx jj n rc maxL : Nat} {y : MethodName} {bytes : ByteArray} {ret : Option FieldType} {host : String} (hM : zM Z j = B) (hC : zM Z jj = C) (hin : ∀ w ∈ qw_G, w ∈ B.2.2.2.2.1) (hjj : C = (y, bytes, maxL, ret, Cond.code y bytes maxL ret :: qw_G, y.cls)) (h : decode B.2.1 pc = .ok (.invokestatic idx, 3)) (w1 : ∀ (A : Nat → Prop) (s : State) (H : Heap), zX Z A s H → va_Nw (.methodLinkNest B.2.2.2.2.2 idx y host) s) (w2 : Cond.static y ∈ qw_G) (w4 : Cond.initialized y.cls ∈ qw_G) (w5 : Cond.code y bytes maxL ret ∈ qw_G) (hd : qw_d y n) : qc_inv Z j pc (pc + 3) jj n 0 := by
  subst hM
  exact qk_invSN (rc := 0) hin (hC.trans hjj) h w1 w2 w4 w5 hd
theorem qn_invIN {Z : qe_Z} {B C : qe_B} {j pc idx jj n rc maxL : Nat} {y : MethodName} {bytes : ByteArray} {host : String} (hM : zM Z j = B) (hC : zM Z jj = C) (hin : ∀ w ∈ qw_G, w ∈ B.2.2.2.2.1) (hjj : C = (y, bytes, maxL, none, Cond.code y bytes maxL none :: qw_G, y.cls)) (h : decode B.2.1 pc = .ok (.invokespecial idx, 3)) (w1 : ∀ (A : Nat → Prop) (s : State) (H : Heap), zX Z A s H → va_Nw (.methodLinkNest B.2.2.2.2.2 idx y host) s) (w2 : Cond.instanceMethod y ∈ qw_G) (w3 : y.name = "<init>") (w4 : Cond.initialized y.cls ∈ qw_G) (w5 : Cond.code y bytes maxL none ∈ qw_G) (hd : qw_d y n) (hrc : rc ≠ 0) (hq : ∃ T N, (zc Z)[rc - 1]? = some (y.cls, T, N)) : qc_inv Z j pc (pc + 3) jj (n + 1) rc := by
  subst hM
  exact qk_invIN hin (hC.trans hjj) h w1 w2 w3 w4 w5 hd hrc hq
theorem qn_invVN {Z : qe_Z} {B C : qe_B} {j pc idx jj n rc maxL : Nat} {y : MethodName} {bytes : ByteArray} {ret : Option FieldType} {host : String} (hM : zM Z j = B) (hC : zM Z jj = C) (hin : ∀ w ∈ qw_G, w ∈ B.2.2.2.2.1) (hjj : C = (y, bytes, maxL, ret, Cond.code y bytes maxL ret :: qw_G, y.cls)) (h : decode B.2.1 pc = .ok (.invokevirtual idx, 3)) (w1 : ∀ (A : Nat → Prop) (s : State) (H : Heap), zX Z A s H → va_Nw (.methodLinkNest B.2.2.2.2.2 idx y host) s) (w2 : Cond.instanceMethod y ∈ qw_G) (w3 : Cond.selects y.cls y y ∈ qw_G) (w4 : Cond.initialized y.cls ∈ qw_G) (w5 : Cond.code y bytes maxL ret ∈ qw_G) (hd : qw_d y n) (hrc : rc ≠ 0) (hq : ∃ T N, (zc Z)[rc - 1]? = some (y.cls, T, N)) : qc_inv Z j pc (pc + 3) jj (n + 1) rc := by
  subst hM
  exact qk_invVN hin (hC.trans hjj) h w1 w2 w3 w4 w5 hd hrc hq
theorem qn_xld {Z : qe_Z} {B : qe_B} {O : qw_O} {L j pc : Nat} (hM : zM Z j = B) (hX : zX Z = qw_X O (zE Z).2.2.1 L (zE Z).2.2.2) (h : decode B.2.1 pc = .ok (.iaload, 1)) : qc_xld Z j pc (pc + 1) L := by
  subst hM
  exact @qk_xld Z O L j pc hX h
theorem qn_ireti {Z : qe_Z} {B : qe_B} {j pc : Nat} (hM : zM Z j = B) (h : decode B.2.1 pc = .ok (.ireturn, 1)) (hr : B.2.2.2.1 = some .int) : qc_ret Z j pc 1 := by
  subst hM
  exact @qk_ireti Z j pc h hr
theorem qn_iretz {Z : qe_Z} {B : qe_B} {j pc : Nat} (hM : zM Z j = B) (h : decode B.2.1 pc = .ok (.ireturn, 1)) (hr : B.2.2.2.1 = some .boolean) : qc_ret Z j pc 2 := by
  subst hM
  exact @qk_iretz Z j pc h hr
theorem qn_vret {Z : qe_Z} {B : qe_B} {j pc : Nat} (hM : zM Z j = B) (h : decode B.2.1 pc = .ok (.return_, 1)) (hr : B.2.2.2.1 = none) : qc_ret0 Z j pc := by
  subst hM
  exact @qk_vret Z j pc h hr
theorem hM_X9_init (E : qe_E) (L : Nat) : zM (qZ E L) 0 = qB_X9_init := rfl
theorem hp_X9_init (E : qe_E) (L : Nat) : ∀ b, zp (qZ E L) 0 b = qp_X9_init b := fun _ => rfl
theorem hM_X9_append (E : qe_E) (L : Nat) : zM (qZ E L) 1 = qB_X9_append := rfl
theorem hp_X9_append (E : qe_E) (L : Nat) : ∀ b, zp (qZ E L) 1 b = qp_X9_append b := fun _ => rfl
theorem hM_X9_clear (E : qe_E) (L : Nat) : zM (qZ E L) 2 = qB_X9_clear := rfl
theorem hp_X9_clear (E : qe_E) (L : Nat) : ∀ b, zp (qZ E L) 2 b = qp_X9_clear b := fun _ => rfl
theorem hM_X9_add (E : qe_E) (L : Nat) : zM (qZ E L) 3 = qB_X9_add := rfl
theorem hp_X9_add (E : qe_E) (L : Nat) : ∀ b, zp (qZ E L) 3 b = qp_X9_add b := fun _ => rfl
theorem hM_X9_remove (E : qe_E) (L : Nat) : zM (qZ E L) 4 = qB_X9_remove := rfl
theorem hp_X9_remove (E : qe_E) (L : Nat) : ∀ b, zp (qZ E L) 4 b = qp_X9_remove b := fun _ => rfl
theorem hM_X9_setBranch (E : qe_E) (L : Nat) : zM (qZ E L) 5 = qB_X9_setBranch := rfl
theorem hp_X9_setBranch (E : qe_E) (L : Nat) : ∀ b, zp (qZ E L) 5 b = qp_X9_setBranch b := fun _ => rfl
theorem hM_X9_setWeight (E : qe_E) (L : Nat) : zM (qZ E L) 6 = qB_X9_setWeight := rfl
theorem hp_X9_setWeight (E : qe_E) (L : Nat) : ∀ b, zp (qZ E L) 6 b = qp_X9_setWeight b := fun _ => rfl
theorem hM_X9_setLoad (E : qe_E) (L : Nat) : zM (qZ E L) 7 = qB_X9_setLoad := rfl
theorem hp_X9_setLoad (E : qe_E) (L : Nat) : ∀ b, zp (qZ E L) 7 b = qp_X9_setLoad b := fun _ => rfl
theorem hM_X9_execute (E : qe_E) (L : Nat) : zM (qZ E L) 8 = qB_X9_execute := rfl
theorem hp_X9_execute (E : qe_E) (L : Nat) : ∀ b, zp (qZ E L) 8 b = qp_X9_execute b := fun _ => rfl
theorem hM_X9_errorPosition (E : qe_E) (L : Nat) : zM (qZ E L) 9 = qB_X9_errorPosition := rfl
theorem hp_X9_errorPosition (E : qe_E) (L : Nat) : ∀ b, zp (qZ E L) 9 b = qp_X9_errorPosition b := fun _ => rfl
theorem hM_X9_property (E : qe_E) (L : Nat) : zM (qZ E L) 10 = qB_X9_property := rfl
theorem hp_X9_property (E : qe_E) (L : Nat) : ∀ b, zp (qZ E L) 10 b = qp_X9_property b := fun _ => rfl
theorem hM_X9_character (E : qe_E) (L : Nat) : zM (qZ E L) 11 = qB_X9_character := rfl
theorem hp_X9_character (E : qe_E) (L : Nat) : ∀ b, zp (qZ E L) 11 b = qp_X9_character b := fun _ => rfl
theorem hM_X9_difference (E : qe_E) (L : Nat) : zM (qZ E L) 12 = qB_X9_difference := rfl
theorem hp_X9_difference (E : qe_E) (L : Nat) : ∀ b, zp (qZ E L) 12 b = qp_X9_difference b := fun _ => rfl
theorem hM_X9_size (E : qe_E) (L : Nat) : zM (qZ E L) 13 = qB_X9_size := rfl
theorem hp_X9_size (E : qe_E) (L : Nat) : ∀ b, zp (qZ E L) 13 b = qp_X9_size b := fun _ => rfl
theorem hM_X9_find (E : qe_E) (L : Nat) : zM (qZ E L) 14 = qB_X9_find := rfl
theorem hp_X9_find (E : qe_E) (L : Nat) : ∀ b, zp (qZ E L) 14 b = qp_X9_find b := fun _ => rfl
theorem hM_X9_branch (E : qe_E) (L : Nat) : zM (qZ E L) 15 = qB_X9_branch := rfl
theorem hp_X9_branch (E : qe_E) (L : Nat) : ∀ b, zp (qZ E L) 15 b = qp_X9_branch b := fun _ => rfl
theorem hM_X9_examined (E : qe_E) (L : Nat) : zM (qZ E L) 16 = qB_X9_examined := rfl
theorem hp_X9_examined (E : qe_E) (L : Nat) : ∀ b, zp (qZ E L) 16 b = qp_X9_examined b := fun _ => rfl
theorem hM_X9_cost (E : qe_E) (L : Nat) : zM (qZ E L) 17 = qB_X9_cost := rfl
theorem hp_X9_cost (E : qe_E) (L : Nat) : ∀ b, zp (qZ E L) 17 b = qp_X9_cost b := fun _ => rfl
theorem hM_X9_worst (E : qe_E) (L : Nat) : zM (qZ E L) 18 = qB_X9_worst := rfl
theorem hp_X9_worst (E : qe_E) (L : Nat) : ∀ b, zp (qZ E L) 18 b = qp_X9_worst b := fun _ => rfl
theorem hM_X9_meanBits (E : qe_E) (L : Nat) : zM (qZ E L) 19 = qB_X9_meanBits := rfl
theorem hp_X9_meanBits (E : qe_E) (L : Nat) : ∀ b, zp (qZ E L) 19 b = qp_X9_meanBits b := fun _ => rfl
theorem hM_X9_best (E : qe_E) (L : Nat) : zM (qZ E L) 20 = qB_X9_best := rfl
theorem hp_X9_best (E : qe_E) (L : Nat) : ∀ b, zp (qZ E L) 20 b = qp_X9_best b := fun _ => rfl
theorem hM_X9_trees (E : qe_E) (L : Nat) : zM (qZ E L) 21 = qB_X9_trees := rfl
theorem hp_X9_trees (E : qe_E) (L : Nat) : ∀ b, zp (qZ E L) 21 b = qp_X9_trees b := fun _ => rfl
theorem hM_X9_selected (E : qe_E) (L : Nat) : zM (qZ E L) 22 = qB_X9_selected := rfl
theorem hp_X9_selected (E : qe_E) (L : Nat) : ∀ b, zp (qZ E L) 22 b = qp_X9_selected b := fun _ => rfl
theorem hM_X9_hash (E : qe_E) (L : Nat) : zM (qZ E L) 23 = qB_X9_hash := rfl
theorem hp_X9_hash (E : qe_E) (L : Nat) : ∀ b, zp (qZ E L) 23 b = qp_X9_hash b := fun _ => rfl
theorem hM_X9_table (E : qe_E) (L : Nat) : zM (qZ E L) 24 = qB_X9_table := rfl
theorem hp_X9_table (E : qe_E) (L : Nat) : ∀ b, zp (qZ E L) 24 b = qp_X9_table b := fun _ => rfl
theorem hM_X9_slot (E : qe_E) (L : Nat) : zM (qZ E L) 25 = qB_X9_slot := rfl
theorem hp_X9_slot (E : qe_E) (L : Nat) : ∀ b, zp (qZ E L) 25 b = qp_X9_slot b := fun _ => rfl
theorem hM_X9_displacement (E : qe_E) (L : Nat) : zM (qZ E L) 26 = qB_X9_displacement := rfl
theorem hp_X9_displacement (E : qe_E) (L : Nat) : ∀ b, zp (qZ E L) 26 b = qp_X9_displacement b := fun _ => rfl
theorem hM_X9_densityBits (E : qe_E) (L : Nat) : zM (qZ E L) 27 = qB_X9_densityBits := rfl
theorem hp_X9_densityBits (E : qe_E) (L : Nat) : ∀ b, zp (qZ E L) 27 b = qp_X9_densityBits b := fun _ => rfl
theorem hM_X9_listing (E : qe_E) (L : Nat) : zM (qZ E L) 28 = qB_X9_listing := rfl
theorem hp_X9_listing (E : qe_E) (L : Nat) : ∀ b, zp (qZ E L) 28 b = qp_X9_listing b := fun _ => rfl
theorem hM_X9_save (E : qe_E) (L : Nat) : zM (qZ E L) 29 = qB_X9_save := rfl
theorem hp_X9_save (E : qe_E) (L : Nat) : ∀ b, zp (qZ E L) 29 b = qp_X9_save b := fun _ => rfl
theorem hM_X9_restore (E : qe_E) (L : Nat) : zM (qZ E L) 30 = qB_X9_restore := rfl
theorem hp_X9_restore (E : qe_E) (L : Nat) : ∀ b, zp (qZ E L) 30 b = qp_X9_restore b := fun _ => rfl
theorem hM_X9_requireKey (E : qe_E) (L : Nat) : zM (qZ E L) 31 = qB_X9_requireKey := rfl
theorem hp_X9_requireKey (E : qe_E) (L : Nat) : ∀ b, zp (qZ E L) 31 b = qp_X9_requireKey b := fun _ => rfl
theorem hM_X9_requireStrategy (E : qe_E) (L : Nat) : zM (qZ E L) 33 = qB_X9_requireStrategy := rfl
theorem hp_X9_requireStrategy (E : qe_E) (L : Nat) : ∀ b, zp (qZ E L) 33 b = qp_X9_requireStrategy b := fun _ => rfl
theorem hM_X9_requireRunnable (E : qe_E) (L : Nat) : zM (qZ E L) 34 = qB_X9_requireRunnable := rfl
theorem hp_X9_requireRunnable (E : qe_E) (L : Nat) : ∀ b, zp (qZ E L) 34 b = qp_X9_requireRunnable b := fun _ => rfl
theorem hM_X9_requireTable (E : qe_E) (L : Nat) : zM (qZ E L) 35 = qB_X9_requireTable := rfl
theorem hp_X9_requireTable (E : qe_E) (L : Nat) : ∀ b, zp (qZ E L) 35 b = qp_X9_requireTable b := fun _ => rfl
theorem hM_X9_canRun (E : qe_E) (L : Nat) : zM (qZ E L) 36 = qB_X9_canRun := rfl
theorem hp_X9_canRun (E : qe_E) (L : Nat) : ∀ b, zp (qZ E L) 36 b = qp_X9_canRun b := fun _ => rfl
theorem hM_X9_prepare (E : qe_E) (L : Nat) : zM (qZ E L) 37 = qB_X9_prepare := rfl
theorem hp_X9_prepare (E : qe_E) (L : Nat) : ∀ b, zp (qZ E L) 37 b = qp_X9_prepare b := fun _ => rfl
theorem hM_X9_put (E : qe_E) (L : Nat) : zM (qZ E L) 39 = qB_X9_put := rfl
theorem hp_X9_put (E : qe_E) (L : Nat) : ∀ b, zp (qZ E L) 39 b = qp_X9_put b := fun _ => rfl
theorem hM_X9_copy (E : qe_E) (L : Nat) : zM (qZ E L) 40 = qB_X9_copy := rfl
theorem hp_X9_copy (E : qe_E) (L : Nat) : ∀ b, zp (qZ E L) 40 b = qp_X9_copy b := fun _ => rfl
theorem hM_X9_contains (E : qe_E) (L : Nat) : zM (qZ E L) 42 = qB_X9_contains := rfl
theorem hp_X9_contains (E : qe_E) (L : Nat) : ∀ b, zp (qZ E L) 42 b = qp_X9_contains b := fun _ => rfl
theorem hM_X10_init (E : qe_E) (L : Nat) : zM (qZ E L) 47 = qB_X10_init := rfl
theorem hp_X10_init (E : qe_E) (L : Nat) : ∀ b, zp (qZ E L) 47 b = qp_X10_init b := fun _ => rfl
theorem hM_X10_thrown (E : qe_E) (L : Nat) : zM (qZ E L) 48 = qB_X10_thrown := rfl
theorem hp_X10_thrown (E : qe_E) (L : Nat) : ∀ b, zp (qZ E L) 48 b = qp_X10_thrown b := fun _ => rfl
theorem hM_X10_in (E : qe_E) (L : Nat) : zM (qZ E L) 49 = qB_X10_in := rfl
theorem hp_X10_in (E : qe_E) (L : Nat) : ∀ b, zp (qZ E L) 49 b = qp_X10_in b := fun _ => rfl
theorem hM_X10_isKey (E : qe_E) (L : Nat) : zM (qZ E L) 50 = qB_X10_isKey := rfl
theorem hp_X10_isKey (E : qe_E) (L : Nat) : ∀ b, zp (qZ E L) 50 b = qp_X10_isKey b := fun _ => rfl
theorem hM_X10_append (E : qe_E) (L : Nat) : zM (qZ E L) 53 = qB_X10_append := rfl
theorem hp_X10_append (E : qe_E) (L : Nat) : ∀ b, zp (qZ E L) 53 b = qp_X10_append b := fun _ => rfl
theorem hM_X10_clear (E : qe_E) (L : Nat) : zM (qZ E L) 54 = qB_X10_clear := rfl
theorem hp_X10_clear (E : qe_E) (L : Nat) : ∀ b, zp (qZ E L) 54 b = qp_X10_clear b := fun _ => rfl
theorem hM_X10_add (E : qe_E) (L : Nat) : zM (qZ E L) 58 = qB_X10_add := rfl
theorem hp_X10_add (E : qe_E) (L : Nat) : ∀ b, zp (qZ E L) 58 b = qp_X10_add b := fun _ => rfl
theorem hM_X10_remove (E : qe_E) (L : Nat) : zM (qZ E L) 59 = qB_X10_remove := rfl
theorem hp_X10_remove (E : qe_E) (L : Nat) : ∀ b, zp (qZ E L) 59 b = qp_X10_remove b := fun _ => rfl
theorem hM_X10_setBranch (E : qe_E) (L : Nat) : zM (qZ E L) 60 = qB_X10_setBranch := rfl
theorem hp_X10_setBranch (E : qe_E) (L : Nat) : ∀ b, zp (qZ E L) 60 b = qp_X10_setBranch b := fun _ => rfl
theorem hM_X10_setWeight (E : qe_E) (L : Nat) : zM (qZ E L) 61 = qB_X10_setWeight := rfl
theorem hp_X10_setWeight (E : qe_E) (L : Nat) : ∀ b, zp (qZ E L) 61 b = qp_X10_setWeight b := fun _ => rfl
theorem hM_X10_setLoad (E : qe_E) (L : Nat) : zM (qZ E L) 62 = qB_X10_setLoad := rfl
theorem hp_X10_setLoad (E : qe_E) (L : Nat) : ∀ b, zp (qZ E L) 62 b = qp_X10_setLoad b := fun _ => rfl
theorem hM_X10_here (E : qe_E) (L : Nat) : zM (qZ E L) 63 = qB_X10_here := rfl
theorem hp_X10_here (E : qe_E) (L : Nat) : ∀ b, zp (qZ E L) 63 b = qp_X10_here b := fun _ => rfl
theorem hM_X10_isWord (E : qe_E) (L : Nat) : zM (qZ E L) 65 = qB_X10_isWord := rfl
theorem hp_X10_isWord (E : qe_E) (L : Nat) : ∀ b, zp (qZ E L) 65 b = qp_X10_isWord b := fun _ => rfl
theorem hM_X10_word (E : qe_E) (L : Nat) : zM (qZ E L) 66 = qB_X10_word := rfl
theorem hp_X10_word (E : qe_E) (L : Nat) : ∀ b, zp (qZ E L) 66 b = qp_X10_word b := fun _ => rfl
theorem hM_X10_readCommand (E : qe_E) (L : Nat) : zM (qZ E L) 70 = qB_X10_readCommand := rfl
theorem hp_X10_readCommand (E : qe_E) (L : Nat) : ∀ b, zp (qZ E L) 70 b = qp_X10_readCommand b := fun _ => rfl
theorem hM_X10_execute (E : qe_E) (L : Nat) : zM (qZ E L) 72 = qB_X10_execute := rfl
theorem hp_X10_execute (E : qe_E) (L : Nat) : ∀ b, zp (qZ E L) 72 b = qp_X10_execute b := fun _ => rfl
theorem hM_X10_errorPosition (E : qe_E) (L : Nat) : zM (qZ E L) 73 = qB_X10_errorPosition := rfl
theorem hp_X10_errorPosition (E : qe_E) (L : Nat) : ∀ b, zp (qZ E L) 73 b = qp_X10_errorPosition b := fun _ => rfl
theorem hM_X10_property (E : qe_E) (L : Nat) : zM (qZ E L) 78 = qB_X10_property := rfl
theorem hp_X10_property (E : qe_E) (L : Nat) : ∀ b, zp (qZ E L) 78 b = qp_X10_property b := fun _ => rfl
theorem hM_X10_character (E : qe_E) (L : Nat) : zM (qZ E L) 79 = qB_X10_character := rfl
theorem hp_X10_character (E : qe_E) (L : Nat) : ∀ b, zp (qZ E L) 79 b = qp_X10_character b := fun _ => rfl
theorem hM_X10_difference (E : qe_E) (L : Nat) : zM (qZ E L) 80 = qB_X10_difference := rfl
theorem hp_X10_difference (E : qe_E) (L : Nat) : ∀ b, zp (qZ E L) 80 b = qp_X10_difference b := fun _ => rfl
theorem hM_X10_size (E : qe_E) (L : Nat) : zM (qZ E L) 81 = qB_X10_size := rfl
theorem hp_X10_size (E : qe_E) (L : Nat) : ∀ b, zp (qZ E L) 81 b = qp_X10_size b := fun _ => rfl
theorem hM_X10_takeBuffer (E : qe_E) (L : Nat) : zM (qZ E L) 82 = qB_X10_takeBuffer := rfl
theorem hp_X10_takeBuffer (E : qe_E) (L : Nat) : ∀ b, zp (qZ E L) 82 b = qp_X10_takeBuffer b := fun _ => rfl
theorem hM_X10_linear (E : qe_E) (L : Nat) : zM (qZ E L) 85 = qB_X10_linear := rfl
theorem hp_X10_linear (E : qe_E) (L : Nat) : ∀ b, zp (qZ E L) 85 b = qp_X10_linear b := fun _ => rfl
theorem hM_X10_search (E : qe_E) (L : Nat) : zM (qZ E L) 88 = qB_X10_search := rfl
theorem hp_X10_search (E : qe_E) (L : Nat) : ∀ b, zp (qZ E L) 88 b = qp_X10_search b := fun _ => rfl
theorem hM_X10_marked (E : qe_E) (L : Nat) : zM (qZ E L) 89 = qB_X10_marked := rfl
theorem hp_X10_marked (E : qe_E) (L : Nat) : ∀ b, zp (qZ E L) 89 b = qp_X10_marked b := fun _ => rfl
theorem hM_X10_ofLength (E : qe_E) (L : Nat) : zM (qZ E L) 92 = qB_X10_ofLength := rfl
theorem hp_X10_ofLength (E : qe_E) (L : Nat) : ∀ b, zp (qZ E L) 92 b = qp_X10_ofLength b := fun _ => rfl
theorem hM_X10_climb (E : qe_E) (L : Nat) : zM (qZ E L) 94 = qB_X10_climb := rfl
theorem hp_X10_climb (E : qe_E) (L : Nat) : ∀ b, zp (qZ E L) 94 b = qp_X10_climb b := fun _ => rfl
theorem hM_X10_trees (E : qe_E) (L : Nat) : zM (qZ E L) 96 = qB_X10_trees := rfl
theorem hp_X10_trees (E : qe_E) (L : Nat) : ∀ b, zp (qZ E L) 96 b = qp_X10_trees b := fun _ => rfl
theorem hM_X10_separates (E : qe_E) (L : Nat) : zM (qZ E L) 97 = qB_X10_separates := rfl
theorem hp_X10_separates (E : qe_E) (L : Nat) : ∀ b, zp (qZ E L) 97 b = qp_X10_separates b := fun _ => rfl
theorem hM_X10_sizeOf (E : qe_E) (L : Nat) : zM (qZ E L) 98 = qB_X10_sizeOf := rfl
theorem hp_X10_sizeOf (E : qe_E) (L : Nat) : ∀ b, zp (qZ E L) 98 b = qp_X10_sizeOf b := fun _ => rfl
theorem hM_X10_select (E : qe_E) (L : Nat) : zM (qZ E L) 100 = qB_X10_select := rfl
theorem hp_X10_select (E : qe_E) (L : Nat) : ∀ b, zp (qZ E L) 100 b = qp_X10_select b := fun _ => rfl
theorem hM_X10_hashOfText (E : qe_E) (L : Nat) : zM (qZ E L) 101 = qB_X10_hashOfText := rfl
theorem hp_X10_hashOfText (E : qe_E) (L : Nat) : ∀ b, zp (qZ E L) 101 b = qp_X10_hashOfText b := fun _ => rfl
theorem hM_X10_prepare (E : qe_E) (L : Nat) : zM (qZ E L) 106 = qB_X10_prepare := rfl
theorem hp_X10_prepare (E : qe_E) (L : Nat) : ∀ b, zp (qZ E L) 106 b = qp_X10_prepare b := fun _ => rfl
theorem hM_X10_hashed (E : qe_E) (L : Nat) : zM (qZ E L) 107 = qB_X10_hashed := rfl
theorem hp_X10_hashed (E : qe_E) (L : Nat) : ∀ b, zp (qZ E L) 107 b = qp_X10_hashed b := fun _ => rfl
theorem hM_X10_canRun (E : qe_E) (L : Nat) : zM (qZ E L) 108 = qB_X10_canRun := rfl
theorem hp_X10_canRun (E : qe_E) (L : Nat) : ∀ b, zp (qZ E L) 108 b = qp_X10_canRun b := fun _ => rfl
theorem hM_X10_refusal (E : qe_E) (L : Nat) : zM (qZ E L) 109 = qB_X10_refusal := rfl
theorem hp_X10_refusal (E : qe_E) (L : Nat) : ∀ b, zp (qZ E L) 109 b = qp_X10_refusal b := fun _ => rfl
theorem hM_X10_run (E : qe_E) (L : Nat) : zM (qZ E L) 110 = qB_X10_run := rfl
theorem hp_X10_run (E : qe_E) (L : Nat) : ∀ b, zp (qZ E L) 110 b = qp_X10_run b := fun _ => rfl
theorem hM_X10_find (E : qe_E) (L : Nat) : zM (qZ E L) 111 = qB_X10_find := rfl
theorem hp_X10_find (E : qe_E) (L : Nat) : ∀ b, zp (qZ E L) 111 b = qp_X10_find b := fun _ => rfl
theorem hM_X10_branch (E : qe_E) (L : Nat) : zM (qZ E L) 112 = qB_X10_branch := rfl
theorem hp_X10_branch (E : qe_E) (L : Nat) : ∀ b, zp (qZ E L) 112 b = qp_X10_branch b := fun _ => rfl
theorem hM_X10_examined (E : qe_E) (L : Nat) : zM (qZ E L) 113 = qB_X10_examined := rfl
theorem hp_X10_examined (E : qe_E) (L : Nat) : ∀ b, zp (qZ E L) 113 b = qp_X10_examined b := fun _ => rfl
theorem hM_X10_costOf (E : qe_E) (L : Nat) : zM (qZ E L) 114 = qB_X10_costOf := rfl
theorem hp_X10_costOf (E : qe_E) (L : Nat) : ∀ b, zp (qZ E L) 114 b = qp_X10_costOf b := fun _ => rfl
theorem hM_X10_cost (E : qe_E) (L : Nat) : zM (qZ E L) 115 = qB_X10_cost := rfl
theorem hp_X10_cost (E : qe_E) (L : Nat) : ∀ b, zp (qZ E L) 115 b = qp_X10_cost b := fun _ => rfl
theorem hM_X10_worst (E : qe_E) (L : Nat) : zM (qZ E L) 116 = qB_X10_worst := rfl
theorem hp_X10_worst (E : qe_E) (L : Nat) : ∀ b, zp (qZ E L) 116 b = qp_X10_worst b := fun _ => rfl
theorem hM_X10_meanBits (E : qe_E) (L : Nat) : zM (qZ E L) 117 = qB_X10_meanBits := rfl
theorem hp_X10_meanBits (E : qe_E) (L : Nat) : ∀ b, zp (qZ E L) 117 b = qp_X10_meanBits b := fun _ => rfl
theorem hM_X10_best (E : qe_E) (L : Nat) : zM (qZ E L) 118 = qB_X10_best := rfl
theorem hp_X10_best (E : qe_E) (L : Nat) : ∀ b, zp (qZ E L) 118 b = qp_X10_best b := fun _ => rfl
theorem hM_X10_selected (E : qe_E) (L : Nat) : zM (qZ E L) 119 = qB_X10_selected := rfl
theorem hp_X10_selected (E : qe_E) (L : Nat) : ∀ b, zp (qZ E L) 119 b = qp_X10_selected b := fun _ => rfl
theorem hM_X10_hash (E : qe_E) (L : Nat) : zM (qZ E L) 120 = qB_X10_hash := rfl
theorem hp_X10_hash (E : qe_E) (L : Nat) : ∀ b, zp (qZ E L) 120 b = qp_X10_hash b := fun _ => rfl
theorem hM_X10_hasTable (E : qe_E) (L : Nat) : zM (qZ E L) 121 = qB_X10_hasTable := rfl
theorem hp_X10_hasTable (E : qe_E) (L : Nat) : ∀ b, zp (qZ E L) 121 b = qp_X10_hasTable b := fun _ => rfl
theorem hM_X10_table (E : qe_E) (L : Nat) : zM (qZ E L) 123 = qB_X10_table := rfl
theorem hp_X10_table (E : qe_E) (L : Nat) : ∀ b, zp (qZ E L) 123 b = qp_X10_table b := fun _ => rfl
theorem hM_X10_slot (E : qe_E) (L : Nat) : zM (qZ E L) 124 = qB_X10_slot := rfl
theorem hp_X10_slot (E : qe_E) (L : Nat) : ∀ b, zp (qZ E L) 124 b = qp_X10_slot b := fun _ => rfl
theorem hM_X10_displacement (E : qe_E) (L : Nat) : zM (qZ E L) 125 = qB_X10_displacement := rfl
theorem hp_X10_displacement (E : qe_E) (L : Nat) : ∀ b, zp (qZ E L) 125 b = qp_X10_displacement b := fun _ => rfl
theorem hM_X10_densityBits (E : qe_E) (L : Nat) : zM (qZ E L) 126 = qB_X10_densityBits := rfl
theorem hp_X10_densityBits (E : qe_E) (L : Nat) : ∀ b, zp (qZ E L) 126 b = qp_X10_densityBits b := fun _ => rfl
theorem hM_X10_putTrees (E : qe_E) (L : Nat) : zM (qZ E L) 132 = qB_X10_putTrees := rfl
theorem hp_X10_putTrees (E : qe_E) (L : Nat) : ∀ b, zp (qZ E L) 132 b = qp_X10_putTrees b := fun _ => rfl
theorem hM_X10_list (E : qe_E) (L : Nat) : zM (qZ E L) 134 = qB_X10_list := rfl
theorem hp_X10_list (E : qe_E) (L : Nat) : ∀ b, zp (qZ E L) 134 b = qp_X10_list b := fun _ => rfl
theorem hM_X10_listing (E : qe_E) (L : Nat) : zM (qZ E L) 135 = qB_X10_listing := rfl
theorem hp_X10_listing (E : qe_E) (L : Nat) : ∀ b, zp (qZ E L) 135 b = qp_X10_listing b := fun _ => rfl
theorem hM_X10_save (E : qe_E) (L : Nat) : zM (qZ E L) 136 = qB_X10_save := rfl
theorem hp_X10_save (E : qe_E) (L : Nat) : ∀ b, zp (qZ E L) 136 b = qp_X10_save b := fun _ => rfl
theorem hM_X10_restore (E : qe_E) (L : Nat) : zM (qZ E L) 137 = qB_X10_restore := rfl
theorem hp_X10_restore (E : qe_E) (L : Nat) : ∀ b, zp (qZ E L) 137 b = qp_X10_restore b := fun _ => rfl
theorem hM_X0_init (E : qe_E) (L : Nat) : zM (qZ E L) 138 = qB_X0_init := rfl
theorem hp_X0_init (E : qe_E) (L : Nat) : ∀ b, zp (qZ E L) 138 b = qp_X0_init b := fun _ => rfl
theorem hM_X0_read (E : qe_E) (L : Nat) : zM (qZ E L) 139 = qB_X0_read := rfl
theorem hp_X0_read (E : qe_E) (L : Nat) : ∀ b, zp (qZ E L) 139 b = qp_X0_read b := fun _ => rfl
theorem hM_X0_readCommand (E : qe_E) (L : Nat) : zM (qZ E L) 140 = qB_X0_readCommand := rfl
theorem hp_X0_readCommand (E : qe_E) (L : Nat) : ∀ b, zp (qZ E L) 140 b = qp_X0_readCommand b := fun _ => rfl
theorem hM_X0_readWord (E : qe_E) (L : Nat) : zM (qZ E L) 142 = qB_X0_readWord := rfl
theorem hp_X0_readWord (E : qe_E) (L : Nat) : ∀ b, zp (qZ E L) 142 b = qp_X0_readWord b := fun _ => rfl
theorem hM_X0_isWord (E : qe_E) (L : Nat) : zM (qZ E L) 143 = qB_X0_isWord := rfl
theorem hp_X0_isWord (E : qe_E) (L : Nat) : ∀ b, zp (qZ E L) 143 b = qp_X0_isWord b := fun _ => rfl
theorem hM_X1_init (E : qe_E) (L : Nat) : zM (qZ E L) 152 = qB_X1_init := rfl
theorem hp_X1_init (E : qe_E) (L : Nat) : ∀ b, zp (qZ E L) 152 b = qp_X1_init b := fun _ => rfl
theorem hM_X1_grow (E : qe_E) (L : Nat) : zM (qZ E L) 153 = qB_X1_grow := rfl
theorem hp_X1_grow (E : qe_E) (L : Nat) : ∀ b, zp (qZ E L) 153 b = qp_X1_grow b := fun _ => rfl
theorem hM_X1_rootWith (E : qe_E) (L : Nat) : zM (qZ E L) 157 = qB_X1_rootWith := rfl
theorem hp_X1_rootWith (E : qe_E) (L : Nat) : ∀ b, zp (qZ E L) 157 b = qp_X1_rootWith b := fun _ => rfl
theorem hM_X1_treeWith (E : qe_E) (L : Nat) : zM (qZ E L) 158 = qB_X1_treeWith := rfl
theorem hp_X1_treeWith (E : qe_E) (L : Nat) : ∀ b, zp (qZ E L) 158 b = qp_X1_treeWith b := fun _ => rfl
theorem hM_X1_plantRoots (E : qe_E) (L : Nat) : zM (qZ E L) 160 = qB_X1_plantRoots := rfl
theorem hp_X1_plantRoots (E : qe_E) (L : Nat) : ∀ b, zp (qZ E L) 160 b = qp_X1_plantRoots b := fun _ => rfl
theorem hM_X2_init (E : qe_E) (L : Nat) : zM (qZ E L) 165 = qB_X2_init := rfl
theorem hp_X2_init (E : qe_E) (L : Nat) : ∀ b, zp (qZ E L) 165 b = qp_X2_init b := fun _ => rfl
theorem hM_X2_has (E : qe_E) (L : Nat) : zM (qZ E L) 166 = qB_X2_has := rfl
theorem hp_X2_has (E : qe_E) (L : Nat) : ∀ b, zp (qZ E L) 166 b = qp_X2_has b := fun _ => rfl
theorem hM_X2_changeLoad (E : qe_E) (L : Nat) : zM (qZ E L) 173 = qB_X2_changeLoad := rfl
theorem hp_X2_changeLoad (E : qe_E) (L : Nat) : ∀ b, zp (qZ E L) 173 b = qp_X2_changeLoad b := fun _ => rfl
theorem hM_X2_takeOver (E : qe_E) (L : Nat) : zM (qZ E L) 174 = qB_X2_takeOver := rfl
theorem hp_X2_takeOver (E : qe_E) (L : Nat) : ∀ b, zp (qZ E L) 174 b = qp_X2_takeOver b := fun _ => rfl
theorem hM_X2_totalWeight (E : qe_E) (L : Nat) : zM (qZ E L) 180 = qB_X2_totalWeight := rfl
theorem hp_X2_totalWeight (E : qe_E) (L : Nat) : ∀ b, zp (qZ E L) 180 b = qp_X2_totalWeight b := fun _ => rfl
theorem hM_X3_init (E : qe_E) (L : Nat) : zM (qZ E L) 182 = qB_X3_init := rfl
theorem hp_X3_init (E : qe_E) (L : Nat) : ∀ b, zp (qZ E L) 182 b = qp_X3_init b := fun _ => rfl
theorem hM_X3_list (E : qe_E) (L : Nat) : zM (qZ E L) 183 = qB_X3_list := rfl
theorem hp_X3_list (E : qe_E) (L : Nat) : ∀ b, zp (qZ E L) 183 b = qp_X3_list b := fun _ => rfl
theorem hM_X3_listKeys (E : qe_E) (L : Nat) : zM (qZ E L) 186 = qB_X3_listKeys := rfl
theorem hp_X3_listKeys (E : qe_E) (L : Nat) : ∀ b, zp (qZ E L) 186 b = qp_X3_listKeys b := fun _ => rfl
theorem hM_X3_listForest (E : qe_E) (L : Nat) : zM (qZ E L) 187 = qB_X3_listForest := rfl
theorem hp_X3_listForest (E : qe_E) (L : Nat) : ∀ b, zp (qZ E L) 187 b = qp_X3_listForest b := fun _ => rfl
theorem hM_X4_init (E : qe_E) (L : Nat) : zM (qZ E L) 190 = qB_X4_init := rfl
theorem hp_X4_init (E : qe_E) (L : Nat) : ∀ b, zp (qZ E L) 190 b = qp_X4_init b := fun _ => rfl
theorem hM_X4_sort (E : qe_E) (L : Nat) : zM (qZ E L) 191 = qB_X4_sort := rfl
theorem hp_X4_sort (E : qe_E) (L : Nat) : ∀ b, zp (qZ E L) 191 b = qp_X4_sort b := fun _ => rfl
theorem hM_X5_init (E : qe_E) (L : Nat) : zM (qZ E L) 192 = qB_X5_init := rfl
theorem hp_X5_init (E : qe_E) (L : Nat) : ∀ b, zp (qZ E L) 192 b = qp_X5_init b := fun _ => rfl
theorem hM_X5_run (E : qe_E) (L : Nat) : zM (qZ E L) 193 = qB_X5_run := rfl
theorem hp_X5_run (E : qe_E) (L : Nat) : ∀ b, zp (qZ E L) 193 b = qp_X5_run b := fun _ => rfl
theorem hM_X5_measure (E : qe_E) (L : Nat) : zM (qZ E L) 194 = qB_X5_measure := rfl
theorem hp_X5_measure (E : qe_E) (L : Nat) : ∀ b, zp (qZ E L) 194 b = qp_X5_measure b := fun _ => rfl
theorem hM_X5_runLinear (E : qe_E) (L : Nat) : zM (qZ E L) 197 = qB_X5_runLinear := rfl
theorem hp_X5_runLinear (E : qe_E) (L : Nat) : ∀ b, zp (qZ E L) 197 b = qp_X5_runLinear b := fun _ => rfl
theorem hM_X5_runBinary (E : qe_E) (L : Nat) : zM (qZ E L) 198 = qB_X5_runBinary := rfl
theorem hp_X5_runBinary (E : qe_E) (L : Nat) : ∀ b, zp (qZ E L) 198 b = qp_X5_runBinary b := fun _ => rfl
theorem hM_X5_runTrees (E : qe_E) (L : Nat) : zM (qZ E L) 199 = qB_X5_runTrees := rfl
theorem hp_X5_runTrees (E : qe_E) (L : Nat) : ∀ b, zp (qZ E L) 199 b = qp_X5_runTrees b := fun _ => rfl
theorem hM_X5_runTable (E : qe_E) (L : Nat) : zM (qZ E L) 201 = qB_X5_runTable := rfl
theorem hp_X5_runTable (E : qe_E) (L : Nat) : ∀ b, zp (qZ E L) 201 b = qp_X5_runTable b := fun _ => rfl
theorem hM_X6_init (E : qe_E) (L : Nat) : zM (qZ E L) 202 = qB_X6_init := rfl
theorem hp_X6_init (E : qe_E) (L : Nat) : ∀ b, zp (qZ E L) 202 b = qp_X6_init b := fun _ => rfl
theorem hM_X6_choose (E : qe_E) (L : Nat) : zM (qZ E L) 203 = qB_X6_choose := rfl
theorem hp_X6_choose (E : qe_E) (L : Nat) : ∀ b, zp (qZ E L) 203 b = qp_X6_choose b := fun _ => rfl
theorem hM_X6_turned (E : qe_E) (L : Nat) : zM (qZ E L) 204 = qB_X6_turned := rfl
theorem hp_X6_turned (E : qe_E) (L : Nat) : ∀ b, zp (qZ E L) 204 b = qp_X6_turned b := fun _ => rfl
theorem hM_X6_collectPairs (E : qe_E) (L : Nat) : zM (qZ E L) 205 = qB_X6_collectPairs := rfl
theorem hp_X6_collectPairs (E : qe_E) (L : Nat) : ∀ b, zp (qZ E L) 205 b = qp_X6_collectPairs b := fun _ => rfl
theorem hM_X6_separates (E : qe_E) (L : Nat) : zM (qZ E L) 206 = qB_X6_separates := rfl
theorem hp_X6_separates (E : qe_E) (L : Nat) : ∀ b, zp (qZ E L) 206 b = qp_X6_separates b := fun _ => rfl
theorem hM_X6_hashOf (E : qe_E) (L : Nat) : zM (qZ E L) 207 = qB_X6_hashOf := rfl
theorem hp_X6_hashOf (E : qe_E) (L : Nat) : ∀ b, zp (qZ E L) 207 b = qp_X6_hashOf b := fun _ => rfl
theorem hM_X7_init (E : qe_E) (L : Nat) : zM (qZ E L) 208 = qB_X7_init := rfl
theorem hp_X7_init (E : qe_E) (L : Nat) : ∀ b, zp (qZ E L) 208 b = qp_X7_init b := fun _ => rfl
theorem hM_X7_build (E : qe_E) (L : Nat) : zM (qZ E L) 209 = qB_X7_build := rfl
theorem hp_X7_build (E : qe_E) (L : Nat) : ∀ b, zp (qZ E L) 209 b = qp_X7_build b := fun _ => rfl
theorem hM_X8_init (E : qe_E) (L : Nat) : zM (qZ E L) 218 = qB_X8_init := rfl
theorem hp_X8_init (E : qe_E) (L : Nat) : ∀ b, zp (qZ E L) 218 b = qp_X8_init b := fun _ => rfl
theorem hM_X8_empty (E : qe_E) (L : Nat) : zM (qZ E L) 219 = qB_X8_empty := rfl
theorem hp_X8_empty (E : qe_E) (L : Nat) : ∀ b, zp (qZ E L) 219 b = qp_X8_empty b := fun _ => rfl
theorem hM_X8_write (E : qe_E) (L : Nat) : zM (qZ E L) 221 = qB_X8_write := rfl
theorem hp_X8_write (E : qe_E) (L : Nat) : ∀ b, zp (qZ E L) 221 b = qp_X8_write b := fun _ => rfl
theorem hM_X8_isKey (E : qe_E) (L : Nat) : zM (qZ E L) 224 = qB_X8_isKey := rfl
theorem hp_X8_isKey (E : qe_E) (L : Nat) : ∀ b, zp (qZ E L) 224 b = qp_X8_isKey b := fun _ => rfl
theorem hM_L_append (E : qe_E) (L : Nat) : zM (qZ E L) 225 = qB_L_append := rfl
theorem hp_L_append (E : qe_E) (L : Nat) : ∀ b, zp (qZ E L) 225 b = qp_L_append b := fun _ => rfl
theorem hM_L_add (E : qe_E) (L : Nat) : zM (qZ E L) 226 = qB_L_add := rfl
theorem hp_L_add (E : qe_E) (L : Nat) : ∀ b, zp (qZ E L) 226 b = qp_L_add b := fun _ => rfl
theorem hM_L_remove (E : qe_E) (L : Nat) : zM (qZ E L) 227 = qB_L_remove := rfl
theorem hp_L_remove (E : qe_E) (L : Nat) : ∀ b, zp (qZ E L) 227 b = qp_L_remove b := fun _ => rfl
theorem hM_L_setBranch (E : qe_E) (L : Nat) : zM (qZ E L) 228 = qB_L_setBranch := rfl
theorem hp_L_setBranch (E : qe_E) (L : Nat) : ∀ b, zp (qZ E L) 228 b = qp_L_setBranch b := fun _ => rfl
theorem hM_L_setWeight (E : qe_E) (L : Nat) : zM (qZ E L) 229 = qB_L_setWeight := rfl
theorem hp_L_setWeight (E : qe_E) (L : Nat) : ∀ b, zp (qZ E L) 229 b = qp_L_setWeight b := fun _ => rfl
theorem hM_L_setLoad (E : qe_E) (L : Nat) : zM (qZ E L) 230 = qB_L_setLoad := rfl
theorem hp_L_setLoad (E : qe_E) (L : Nat) : ∀ b, zp (qZ E L) 230 b = qp_L_setLoad b := fun _ => rfl
theorem hM_L_execute (E : qe_E) (L : Nat) : zM (qZ E L) 231 = qB_L_execute := rfl
theorem hp_L_execute (E : qe_E) (L : Nat) : ∀ b, zp (qZ E L) 231 b = qp_L_execute b := fun _ => rfl
theorem hM_L_property (E : qe_E) (L : Nat) : zM (qZ E L) 232 = qB_L_property := rfl
theorem hp_L_property (E : qe_E) (L : Nat) : ∀ b, zp (qZ E L) 232 b = qp_L_property b := fun _ => rfl
theorem hM_L_character (E : qe_E) (L : Nat) : zM (qZ E L) 233 = qB_L_character := rfl
theorem hp_L_character (E : qe_E) (L : Nat) : ∀ b, zp (qZ E L) 233 b = qp_L_character b := fun _ => rfl
theorem hM_L_difference (E : qe_E) (L : Nat) : zM (qZ E L) 234 = qB_L_difference := rfl
theorem hp_L_difference (E : qe_E) (L : Nat) : ∀ b, zp (qZ E L) 234 b = qp_L_difference b := fun _ => rfl
theorem hM_L_size (E : qe_E) (L : Nat) : zM (qZ E L) 235 = qB_L_size := rfl
theorem hp_L_size (E : qe_E) (L : Nat) : ∀ b, zp (qZ E L) 235 b = qp_L_size b := fun _ => rfl
theorem hM_L_find (E : qe_E) (L : Nat) : zM (qZ E L) 236 = qB_L_find := rfl
theorem hp_L_find (E : qe_E) (L : Nat) : ∀ b, zp (qZ E L) 236 b = qp_L_find b := fun _ => rfl
theorem hM_L_branch (E : qe_E) (L : Nat) : zM (qZ E L) 237 = qB_L_branch := rfl
theorem hp_L_branch (E : qe_E) (L : Nat) : ∀ b, zp (qZ E L) 237 b = qp_L_branch b := fun _ => rfl
theorem hM_L_examined (E : qe_E) (L : Nat) : zM (qZ E L) 238 = qB_L_examined := rfl
theorem hp_L_examined (E : qe_E) (L : Nat) : ∀ b, zp (qZ E L) 238 b = qp_L_examined b := fun _ => rfl
theorem hM_L_cost (E : qe_E) (L : Nat) : zM (qZ E L) 239 = qB_L_cost := rfl
theorem hp_L_cost (E : qe_E) (L : Nat) : ∀ b, zp (qZ E L) 239 b = qp_L_cost b := fun _ => rfl
theorem hM_L_worst (E : qe_E) (L : Nat) : zM (qZ E L) 240 = qB_L_worst := rfl
theorem hp_L_worst (E : qe_E) (L : Nat) : ∀ b, zp (qZ E L) 240 b = qp_L_worst b := fun _ => rfl
theorem hM_L_meanBits (E : qe_E) (L : Nat) : zM (qZ E L) 241 = qB_L_meanBits := rfl
theorem hp_L_meanBits (E : qe_E) (L : Nat) : ∀ b, zp (qZ E L) 241 b = qp_L_meanBits b := fun _ => rfl
theorem hM_L_trees (E : qe_E) (L : Nat) : zM (qZ E L) 242 = qB_L_trees := rfl
theorem hp_L_trees (E : qe_E) (L : Nat) : ∀ b, zp (qZ E L) 242 b = qp_L_trees b := fun _ => rfl
theorem hM_L_table (E : qe_E) (L : Nat) : zM (qZ E L) 243 = qB_L_table := rfl
theorem hp_L_table (E : qe_E) (L : Nat) : ∀ b, zp (qZ E L) 243 b = qp_L_table b := fun _ => rfl
theorem hM_L_slot (E : qe_E) (L : Nat) : zM (qZ E L) 244 = qB_L_slot := rfl
theorem hp_L_slot (E : qe_E) (L : Nat) : ∀ b, zp (qZ E L) 244 b = qp_L_slot b := fun _ => rfl
theorem hM_L_displacement (E : qe_E) (L : Nat) : zM (qZ E L) 245 = qB_L_displacement := rfl
theorem hp_L_displacement (E : qe_E) (L : Nat) : ∀ b, zp (qZ E L) 245 b = qp_L_displacement b := fun _ => rfl
theorem hM_L_densityBits (E : qe_E) (L : Nat) : zM (qZ E L) 246 = qB_L_densityBits := rfl
theorem hp_L_densityBits (E : qe_E) (L : Nat) : ∀ b, zp (qZ E L) 246 b = qp_L_densityBits b := fun _ => rfl
theorem hM_L_listing (E : qe_E) (L : Nat) : zM (qZ E L) 247 = qB_L_listing := rfl
theorem hp_L_listing (E : qe_E) (L : Nat) : ∀ b, zp (qZ E L) 247 b = qp_L_listing b := fun _ => rfl
theorem hM_L_restore (E : qe_E) (L : Nat) : zM (qZ E L) 248 = qB_L_restore := rfl
theorem hp_L_restore (E : qe_E) (L : Nat) : ∀ b, zp (qZ E L) 248 b = qp_L_restore b := fun _ => rfl
theorem hM_L_law (E : qe_E) (L : Nat) : zM (qZ E L) 249 = qB_L_law := rfl
theorem hp_L_law (E : qe_E) (L : Nat) : ∀ b, zp (qZ E L) 249 b = qp_L_law b := fun _ => rfl
theorem hM_J6_bitCount_0f7a4 (E : qe_E) (L : Nat) : zM (qZ E L) 250 = qB_J6_bitCount_0f7a4 := rfl
theorem hp_J6_bitCount_0f7a4 (E : qe_E) (L : Nat) : ∀ b, zp (qZ E L) 250 b = qp_J6_bitCount_0f7a4 b := fun _ => rfl
end QEHB
