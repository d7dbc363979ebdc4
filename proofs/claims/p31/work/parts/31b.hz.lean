/-! BLOCKS: the engine's rows over a method's own name; made by wip/engine/gen21.py -/
section QEHB
variable {dp : Nat}
theorem sm_pushI {Z : qe_Z} {B : qe_B} {j : Nat} {pc nx : Nat} {nt : qe_N dp} {a : Nat} (hM : zM Z j = B) (n : Nat) (ha : a = 8 * n) (hc : qc_st B pc nx [] [.int (Int32.ofNat n)]) (hn : qx_sn Z j nx nt) : qx_sn Z j pc (ql_push a nt) := by
  subst hM
  exact sn_pushI n ha @hc hn
theorem sm_pushL {Z : qe_Z} {B : qe_B} {j : Nat} {pc nx : Nat} {nt : qe_N dp} {a : Nat} (hM : zM Z j = B) (n : Nat) (ha : a = 8 * n + 1) (hc : qc_st B pc nx [] [.long (Int64.ofNat n)]) (hn : qx_sn Z j nx nt) : qx_sn Z j pc (ql_push a nt) := by
  subst hM
  exact sn_pushL n ha @hc hn
theorem sm_ld {Z : qe_Z} {B : qe_B} {j : Nat} {pc nx : Nat} {nt : qe_N dp} {s a : Nat} (hM : zM Z j = B) (hs : s < 3) (hc : qc_ld B pc nx a s) (ha : a < B.2.2.1) (hn : qx_sn Z j nx nt) : qx_sn Z j pc (ql_ld s a nt) := by
  subst hM
  exact sn_ld hs @hc ha hn
theorem sm_st1 {Z : qe_Z} {B : qe_B} {j : Nat} {pc nx : Nat} {nt : qe_N dp} {s a : Nat} (hM : zM Z j = B) (hs : s < 3) (hc : qc_s1 B pc nx a s) (ha : a < B.2.2.1) (hn : qx_sn Z j nx nt) : qx_sn Z j pc (ql_st1 s a nt) := by
  subst hM
  exact sn_st1 hs @hc ha hn
theorem sm_st2 {Z : qe_Z} {B : qe_B} {j : Nat} {pc nx : Nat} {nt : qe_N dp} {a : Nat} (hM : zM Z j = B) (hc : qc_s2 B pc nx a) (ha : a + 1 < B.2.2.1) (hn : qx_sn Z j nx nt) : qx_sn Z j pc (ql_st2 a nt) := by
  subst hM
  exact sn_st2 @hc ha hn
theorem sm_inc {Z : qe_Z} {B : qe_B} {j : Nat} {pc nx : Nat} {nt : qe_N dp} {a i : Nat} {df : qe_Df} (hM : zM Z j = B) (hd : qe_dok (zE Z).2.2.2 df) (hc : qc_inc B pc nx a (Int32.ofNat i)) (ha : a < B.2.2.1) (hn : qx_sn Z j nx nt) : qx_sn Z j pc (ql_inc df a i nt) := by
  subst hM
  exact sn_inc hd @hc ha hn
theorem sm_bin {Z : qe_Z} {B : qe_B} {j : Nat} {pc nx : Nat} {nt : qe_N dp} {o : Nat} {df : qe_Df} (hM : zM Z j = B) (hd : qe_dok (zE Z).2.2.2 df) (hc : ∀ x y : Int32, qc_st B pc nx [.int y, .int x] [.int (qe_sem o x y)]) (hn : qx_sn Z j nx nt) : qx_sn Z j pc (ql_bin df o nt) := by
  subst hM
  exact sn_bin hd @hc hn
theorem sm_neg {Z : qe_Z} {B : qe_B} {j : Nat} {pc nx : Nat} {nt : qe_N dp} {df : qe_Df} (hM : zM Z j = B) (hd : qe_dok (zE Z).2.2.2 df) (hc : ∀ x : Int32, qc_st B pc nx [.int x] [.int (-x)]) (hn : qx_sn Z j nx nt) : qx_sn Z j pc (ql_neg df nt) := by
  subst hM
  exact sn_neg hd @hc hn
theorem sm_div {Z : qe_Z} {B : qe_B} {j : Nat} {pc nx : Nat} {nt : qe_N dp} (hM : zM Z j = B) (hc : ∀ x y : Int32, ¬ y = 0 → qc_st B pc nx [.int y, .int x] [.int (x / y)]) (hn : qx_sn Z j nx nt) : qx_sn Z j pc (ql_div nt) := by
  subst hM
  exact sn_div @hc hn
theorem sm_i2l {Z : qe_Z} {B : qe_B} {j : Nat} {pc nx : Nat} {nt : qe_N dp} (hM : zM Z j = B) (hc : ∀ x : Int32, qc_st B pc nx [.int x] [.long x.toInt64]) (hn : qx_sn Z j nx nt) : qx_sn Z j pc (ql_i2l nt) := by
  subst hM
  exact sn_i2l @hc hn
theorem sm_lcmp {Z : qe_Z} {B : qe_B} {j : Nat} {pc nx : Nat} {nt : qe_N dp} (hM : zM Z j = B) (hc : ∀ x y : Int64, qc_st B pc nx [.long y, .long x] [.int (lg_cmp x y)]) (hn : qx_sn Z j nx nt) : qx_sn Z j pc (ql_lcmp nt) := by
  subst hM
  exact sn_lcmp @hc hn
theorem sm_dup {Z : qe_Z} {B : qe_B} {j : Nat} {pc nx : Nat} {nt : qe_N dp} (hM : zM Z j = B) (hc : ∀ v : Value, v.category = 1 → qc_st B pc nx [v] [v, v]) (hn : qx_sn Z j nx nt) : qx_sn Z j pc (ql_dup nt) := by
  subst hM
  exact sn_dup @hc hn
theorem sm_pop {Z : qe_Z} {B : qe_B} {j : Nat} {pc nx : Nat} {nt : qe_N dp} (hM : zM Z j = B) (hc : ∀ v : Value, v.category = 1 → qc_st B pc nx [v] []) (hn : qx_sn Z j nx nt) : qx_sn Z j pc (ql_pop nt) := by
  subst hM
  exact sn_pop @hc hn
theorem sm_dup2 {Z : qe_Z} {B : qe_B} {j : Nat} {pc nx : Nat} {nt : qe_N dp} (hM : zM Z j = B) (hc : ∀ v w : Value, v.category = 1 → w.category = 1 → qc_st B pc nx [v, w] [v, w, v, w]) (hn : qx_sn Z j nx nt) : qx_sn Z j pc (ql_dup2 nt) := by
  subst hM
  exact sn_dup2 @hc hn
theorem sm_get {Z : qe_Z} {B : qe_B} {j : Nat} {pc nx : Nat} {nt : qe_N dp} {ci fk : Nat} (hM : zM Z j = B) (hc : qc_get (zc Z) B pc nx ci fk) (hci : ci < 100) (hn : qx_sn Z j nx nt) : qx_sn Z j pc (ql_get ci fk nt) := by
  subst hM
  exact sn_get @hc hci hn
theorem sm_put {Z : qe_Z} {B : qe_B} {j : Nat} {pc nx : Nat} {nt : qe_N dp} {ci fk tc : Nat} {ty : FieldType} (hM : zM Z j = B) (hc : qc_put (zc Z) B pc nx ci fk ty) (hci : ci < 100) (ht : qx_ty tc ty) (hn : qx_sn Z j nx nt) : qx_sn Z j pc (ql_put ci fk tc nt) := by
  subst hM
  exact sn_put @hc hci ht hn
theorem sm_new {Z : qe_Z} {B : qe_B} {j : Nat} {pc nx : Nat} {nt : qe_N dp} {ci N nd : Nat} {fs : List Value} (hM : zM Z j = B) (hc : qc_new (zc Z) B pc nx ci N fs) (hci : ci < 100) (hfs : ∀ (E : qe_E) (ad : Nat → Nat), (List.range N).map (fun k => qe_v E ad (qe_get nd k)) = fs) (hnd : nd < 2 ^ (72 * N)) (hnb : ∀ k, k < N → qe_is 2 (qe_get nd k) = false) (hn : qx_sn Z j nx nt) : qx_sn Z j pc (ql_new ci N nd nt) := by
  subst hM
  exact sn_new @hc hci hfs hnd hnb hn
theorem sm_newi {Z : qe_Z} {B : qe_B} {j : Nat} {pc nx : Nat} {nt : qe_N dp} (hM : zM Z j = B) (hc : qc_newa (zc Z) B pc nx .int (fun N => (N, .inl (fun _ => 0)))) (hn : qx_sn Z j nx nt) : qx_sn Z j pc (ql_newa 100 nt) := by
  subst hM
  exact sn_newi @hc hn
theorem sm_newz {Z : qe_Z} {B : qe_B} {j : Nat} {pc nx : Nat} {nt : qe_N dp} (hM : zM Z j = B) (hc : qc_newa (zc Z) B pc nx .boolean (fun N => (N, .inl (fun _ => 0)))) (hn : qx_sn Z j nx nt) : qx_sn Z j pc (ql_newa 101 nt) := by
  subst hM
  exact sn_newz @hc hn
theorem sm_newl {Z : qe_Z} {B : qe_B} {j : Nat} {pc nx : Nat} {nt : qe_N dp} (hM : zM Z j = B) (hc : qc_newa (zc Z) B pc nx .long (fun N => (N, .inr (.inl (fun _ => 0))))) (hn : qx_sn Z j nx nt) : qx_sn Z j pc (ql_newa 102 nt) := by
  subst hM
  exact sn_newl @hc hn
theorem sm_alen {Z : qe_Z} {B : qe_B} {j : Nat} {pc nx : Nat} {nt : qe_N dp} (hM : zM Z j = B) (hc : qc_alen (zc Z) B pc nx) (hn : qx_sn Z j nx nt) : qx_sn Z j pc (ql_alen nt) := by
  subst hM
  exact sn_alen @hc hn
theorem sm_iald {Z : qe_Z} {B : qe_B} {j : Nat} {pc nx : Nat} {nt : qe_N dp} (hM : zM Z j = B) (hc : qc_iald (zc Z) B pc nx) (hn : qx_sn Z j nx nt) : qx_sn Z j pc (ql_ald 100 nt) := by
  subst hM
  exact sn_iald @hc hn
theorem sm_zald {Z : qe_Z} {B : qe_B} {j : Nat} {pc nx : Nat} {nt : qe_N dp} (hM : zM Z j = B) (hc : qc_zald (zc Z) B pc nx) (hn : qx_sn Z j nx nt) : qx_sn Z j pc (ql_ald 101 nt) := by
  subst hM
  exact sn_zald @hc hn
theorem sm_lald {Z : qe_Z} {B : qe_B} {j : Nat} {pc nx : Nat} {nt : qe_N dp} (hM : zM Z j = B) (hc : qc_lald (zc Z) B pc nx) (hn : qx_sn Z j nx nt) : qx_sn Z j pc (ql_lald nt) := by
  subst hM
  exact sn_lald @hc hn
theorem sm_iast {Z : qe_Z} {B : qe_B} {j : Nat} {pc nx : Nat} {nt : qe_N dp} (hM : zM Z j = B) (hc : qc_iast (zc Z) B pc nx) (hn : qx_sn Z j nx nt) : qx_sn Z j pc (ql_ast 100 1 nt) := by
  subst hM
  exact sn_iast @hc hn
theorem sm_zast {Z : qe_Z} {B : qe_B} {j : Nat} {pc nx : Nat} {nt : qe_N dp} (hM : zM Z j = B) (hc : qc_zast (zc Z) B pc nx) (hn : qx_sn Z j nx nt) : qx_sn Z j pc (ql_ast 101 2 nt) := by
  subst hM
  exact sn_zast @hc hn
theorem sm_last {Z : qe_Z} {B : qe_B} {j : Nat} {pc nx : Nat} {nt : qe_N dp} (hM : zM Z j = B) (hc : qc_last (zc Z) B pc nx) (hn : qx_sn Z j nx nt) : qx_sn Z j pc (ql_ast 102 3 nt) := by
  subst hM
  exact sn_last @hc hn
theorem sm_jmp {Z : qe_Z} {B : qe_B} {f : Nat → Nat} {j : Nat} {pc tg b : Nat} (hM : zM Z j = B) (hp : ∀ b, zp Z j b = f b) (hc : qc_st B pc tg [] []) (hb : f b = tg) : qx_sn Z j pc (ql_jmp b : qe_N dp) := by
  subst hM
  exact sn_jmp (by rw [hp, hb]; exact @hc)
theorem sm_if {Z : qe_Z} {B : qe_B} {f : Nat → Nat} {j : Nat} {pc nx tg o b : Nat} {nt : qe_N dp} (hM : zM Z j = B) (hp : ∀ b, zp Z j b = f b) (hc : qc_if B pc nx tg o) (hb : f b = tg) (hn : qx_sn Z j nx nt) : qx_sn Z j pc (ql_if o b nt) := by
  subst hM
  exact sn_if @hc ((hp b).trans hb) hn
theorem sm_ic {Z : qe_Z} {B : qe_B} {f : Nat → Nat} {j : Nat} {pc nx tg o b : Nat} {nt : qe_N dp} (hM : zM Z j = B) (hp : ∀ b, zp Z j b = f b) (hc : qc_ic B pc nx tg o) (hb : f b = tg) (hn : qx_sn Z j nx nt) : qx_sn Z j pc (ql_ic o b nt) := by
  subst hM
  exact sn_ic @hc ((hp b).trans hb) hn
theorem sm_sw {Z : qe_Z} {B : qe_B} {f : Nat → Nat} {j : Nat} {pc lo df dfp : Nat} {tg tp : List Nat} (hM : zM Z j = B) (hp : ∀ b, zp Z j b = f b) (hc : qc_sw B pc (lo : Int) dfp tp) (hl : lo + tg.length ≤ 2147483648) (hd : f df = dfp) (ht : tg.map f = tp) : qx_sn Z j pc (ql_sw lo df tg : qe_N dp) := by
  subst hM
  exact sn_sw @hc hl ((hp df).trans hd) (by rw [← ht]; exact List.map_congr_left fun b _ => hp b)
theorem sm_fall {Z : qe_Z} {f : Nat → Nat} {j pc b : Nat} (hp : ∀ b, zp Z j b = f b) (hb : f b = pc) : qx_sn Z j pc (ql_jmp b : qe_N dp) := sn_fall ((hp b).trans hb)
theorem sm_inv0 {Z : qe_Z} {B : qe_B} {j pc nx jj na rc mx : Nat} {nt : qe_N dp} (hz : qz_ok Z) (hM : zM Z jj = B) (hjj : qx_mb Z jj) (hc : qc_inv Z j pc nx jj na rc) (hrc : rc = 0 ∨ (rc - 1 < 100 ∧ ∃ q, (zc Z)[rc - 1]? = some q)) (hmx : mx ≤ B.2.2.1) (ho : ∀ c : Code, zT Z j c → ∀ x ∈ c.exceptionTable.toList, False) (hn2 : qx_sn Z j nx nt) : qx_sn Z j pc (ql_inv jj na rc mx true [] nt) := by
  subst hM
  exact sn_inv hz hjj hc hrc hmx (fun z h => absurd h List.not_mem_nil) (fun _ i _ => qk_out fun c h x hx => absurd (ho c h x hx) id) hn2
theorem qn_invV {Z : qe_Z} {B C : qe_B} {j pc idx jj n rc maxL : Nat} {y : MethodName} {bytes : ByteArray} {ret : Option FieldType} (hM : zM Z j = B) (hC : zM Z jj = C) (hin : ∀ w ∈ qw_G, w ∈ B.2.2.2.2.1) (hjj : C = (y, bytes, maxL, ret, Cond.code y bytes maxL ret :: qw_G, y.cls)) (h : decode B.2.1 pc = .ok (.invokevirtual idx, 3)) (w1 : Cond.methodLink B.2.2.2.2.2 idx y ∈ qw_G) (w2 : Cond.instanceMethod y ∈ qw_G) (w3 : Cond.selects y.cls y y ∈ qw_G) (w4 : Cond.initialized y.cls ∈ qw_G) (w5 : Cond.code y bytes maxL ret ∈ qw_G) (hd : qw_d y n) (hrc : rc ≠ 0) (hq : ∃ T N, (zc Z)[rc - 1]? = some (y.cls, T, N)) : qc_inv Z j pc (pc + 3) jj (n + 1) rc := by
  subst hM
  exact qk_invV hin (hC.trans hjj) h w1 w2 w3 w4 w5 hd hrc hq
theorem qn_invS {Z : qe_Z} {B C : qe_B} {j pc idx jj n rc maxL : Nat} {y : MethodName} {bytes : ByteArray} {ret : Option FieldType} (hM : zM Z j = B) (hC : zM Z jj = C) (hin : ∀ w ∈ qw_G, w ∈ B.2.2.2.2.1) (hjj : C = (y, bytes, maxL, ret, Cond.code y bytes maxL ret :: qw_G, y.cls)) (h : decode B.2.1 pc = .ok (.invokestatic idx, 3)) (w1 : Cond.methodLink B.2.2.2.2.2 idx y ∈ qw_G) (w2 : Cond.static y ∈ qw_G) (w4 : Cond.initialized y.cls ∈ qw_G) (w5 : Cond.code y bytes maxL ret ∈ qw_G) (hd : qw_d y n) : qc_inv Z j pc (pc + 3) jj n 0 := by
  subst hM
  exact qk_invS (rc := 0) hin (hC.trans hjj) h w1 w2 w4 w5 hd
theorem qn_invI {Z : qe_Z} {B C : qe_B} {j pc idx jj n rc maxL : Nat} {y : MethodName} {bytes : ByteArray} (hM : zM Z j = B) (hC : zM Z jj = C) (hin : ∀ w ∈ qw_G, w ∈ B.2.2.2.2.1) (hjj : C = (y, bytes, maxL, none, Cond.code y bytes maxL none :: qw_G, y.cls)) (h : decode B.2.1 pc = .ok (.invokespecial idx, 3)) (w1 : Cond.methodLink B.2.2.2.2.2 idx y ∈ qw_G) (w2 : Cond.instanceMethod y ∈ qw_G) (w3 : y.name = "<init>") (w4 : Cond.initialized y.cls ∈ qw_G) (w5 : Cond.code y bytes maxL none ∈ qw_G) (hd : qw_d y n) (hrc : rc ≠ 0) (hq : ∃ T N, (zc Z)[rc - 1]? = some (y.cls, T, N)) : qc_inv Z j pc (pc + 3) jj (n + 1) rc := by
  subst hM
  exact qk_invI hin (hC.trans hjj) h w1 w2 w3 w4 w5 hd hrc hq
theorem qn_invSX {Z : qe_Z} {B C : qe_B} {j pc idx jj n rc maxL : Nat} {y : MethodName} {bytes : ByteArray} {ret : Option FieldType} {hh : List (Nat × Nat × Nat × Nat)} (hM : zM Z j = B) (hC : zM Z jj = C) (hin : ∀ w ∈ qw_G, w ∈ B.2.2.2.2.1) (hjj : C = (y, bytes, maxL, ret, Cond.codeWith y bytes maxL ret hh :: qw_G, y.cls)) (h : decode B.2.1 pc = .ok (.invokestatic idx, 3)) (w1 : Cond.methodLink B.2.2.2.2.2 idx y ∈ qw_G) (w2 : Cond.static y ∈ qw_G) (w4 : Cond.initialized y.cls ∈ qw_G) (w5 : Cond.codeWith y bytes maxL ret hh ∈ qw_G) (hd : qw_d y n) : qc_inv Z j pc (pc + 3) jj n 0 := by
  subst hM
  exact qk_invSX (rc := 0) hin (hC.trans hjj) h w1 w2 w4 w5 hd
theorem qn_invSN {Z : qe_Z} {B C : qe_B} {j pc idx jj n rc maxL : Nat} {y : MethodName} {bytes : ByteArray} {ret : Option FieldType} {host : String} (hM : zM Z j = B) (hC : zM Z jj = C) (hin : ∀ w ∈ qw_G, w ∈ B.2.2.2.2.1) (hjj : C = (y, bytes, maxL, ret, Cond.code y bytes maxL ret :: qw_G, y.cls)) (h : decode B.2.1 pc = .ok (.invokestatic idx, 3)) (w1 : ∀ (A : Nat → Prop) (s : State) (H : Heap), zX Z A s H → va_Nw (.methodLinkNest B.2.2.2.2.2 idx y host) s) (w2 : Cond.static y ∈ qw_G) (w4 : Cond.initialized y.cls ∈ qw_G) (w5 : Cond.code y bytes maxL ret ∈ qw_G) (hd : qw_d y n) : qc_inv Z j pc (pc + 3) jj n 0 := by
  subst hM
  exact qk_invSN (rc := 0) hin (hC.trans hjj) h w1 w2 w4 w5 hd
theorem qn_invIN {Z : qe_Z} {B C : qe_B} {j pc idx jj n rc maxL : Nat} {y : MethodName} {bytes : ByteArray} {host : String} (hM : zM Z j = B) (hC : zM Z jj = C) (hin : ∀ w ∈ qw_G, w ∈ B.2.2.2.2.1) (hjj : C = (y, bytes, maxL, none, Cond.code y bytes maxL none :: qw_G, y.cls)) (h : decode B.2.1 pc = .ok (.invokespecial idx, 3)) (w1 : ∀ (A : Nat → Prop) (s : State) (H : Heap), zX Z A s H → va_Nw (.methodLinkNest B.2.2.2.2.2 idx y host) s) (w2 : Cond.instanceMethod y ∈ qw_G) (w3 : y.name = "<init>") (w4 : Cond.initialized y.cls ∈ qw_G) (w5 : Cond.code y bytes maxL none ∈ qw_G) (hd : qw_d y n) (hrc : rc ≠ 0) (hq : ∃ T N, (zc Z)[rc - 1]? = some (y.cls, T, N)) : qc_inv Z j pc (pc + 3) jj (n + 1) rc := by
  subst hM
  exact qk_invIN hin (hC.trans hjj) h w1 w2 w3 w4 w5 hd hrc hq
theorem qn_invVN {Z : qe_Z} {B C : qe_B} {j pc idx jj n rc maxL : Nat} {y : MethodName} {bytes : ByteArray} {ret : Option FieldType} {host : String} (hM : zM Z j = B) (hC : zM Z jj = C) (hin : ∀ w ∈ qw_G, w ∈ B.2.2.2.2.1) (hjj : C = (y, bytes, maxL, ret, Cond.code y bytes maxL ret :: qw_G, y.cls)) (h : decode B.2.1 pc = .ok (.invokevirtual idx, 3)) (w1 : ∀ (A : Nat → Prop) (s : State) (H : Heap), zX Z A s H → va_Nw (.methodLinkNest B.2.2.2.2.2 idx y host) s) (w2 : Cond.instanceMethod y ∈ qw_G) (w3 : Cond.selects y.cls y y ∈ qw_G) (w4 : Cond.initialized y.cls ∈ qw_G) (w5 : Cond.code y bytes maxL ret ∈ qw_G) (hd : qw_d y n) (hrc : rc ≠ 0) (hq : ∃ T N, (zc Z)[rc - 1]? = some (y.cls, T, N)) : qc_inv Z j pc (pc + 3) jj (n + 1) rc := by
  subst hM
  exact qk_invVN hin (hC.trans hjj) h w1 w2 w3 w4 w5 hd hrc hq
theorem qn_xld {Z : qe_Z} {B : qe_B} {O : qw_O} {L j pc : Nat} (hM : zM Z j = B) (hX : zX Z = qw_X O (zE Z).2.2.1 L (zE Z).2.2.2) (h : decode B.2.1 pc = .ok (.iaload, 1)) : qc_xld Z j pc (pc + 1) L := by
  subst hM
  exact @qk_xld Z O L j pc hX h
theorem qn_ireti {Z : qe_Z} {B : qe_B} {j pc : Nat} (hM : zM Z j = B) (h : decode B.2.1 pc = .ok (.ireturn, 1)) (hr : B.2.2.2.1 = some .int) : qc_ret Z j pc 1 := by
  subst hM
  exact @qk_ireti Z j pc h hr
theorem qn_iretz {Z : qe_Z} {B : qe_B} {j pc : Nat} (hM : zM Z j = B) (h : decode B.2.1 pc = .ok (.ireturn, 1)) (hr : B.2.2.2.1 = some .boolean) : qc_ret Z j pc 2 := by
  subst hM
  exact @qk_iretz Z j pc h hr
theorem qn_vret {Z : qe_Z} {B : qe_B} {j pc : Nat} (hM : zM Z j = B) (h : decode B.2.1 pc = .ok (.return_, 1)) (hr : B.2.2.2.1 = none) : qc_ret0 Z j pc := by
  subst hM
  exact @qk_vret Z j pc h hr
theorem hM_X9_init (E : qe_E) (L : Nat) : zM (qZ E L) 0 = qB_X9_init := rfl
theorem hp_X9_init (E : qe_E) (L : Nat) : ∀ b, zp (qZ E L) 0 b = qp_X9_init b := fun _ => rfl
theorem hM_X9_append (E : qe_E) (L : Nat) : zM (qZ E L) 1 = qB_X9_append := rfl
theorem hp_X9_append (E : qe_E) (L : Nat) : ∀ b, zp (qZ E L) 1 b = qp_X9_append b := fun _ => rfl
theorem hM_X9_add (E : qe_E) (L : Nat) : zM (qZ E L) 3 = qB_X9_add := rfl
theorem hp_X9_add (E : qe_E) (L : Nat) : ∀ b, zp (qZ E L) 3 b = qp_X9_add b := fun _ => rfl
theorem hM_X9_trees (E : qe_E) (L : Nat) : zM (qZ E L) 21 = qB_X9_trees := rfl
theorem hp_X9_trees (E : qe_E) (L : Nat) : ∀ b, zp (qZ E L) 21 b = qp_X9_trees b := fun _ => rfl
theorem hM_X9_requireBranch (E : qe_E) (L : Nat) : zM (qZ E L) 32 = qB_X9_requireBranch := rfl
theorem hp_X9_requireBranch (E : qe_E) (L : Nat) : ∀ b, zp (qZ E L) 32 b = qp_X9_requireBranch b := fun _ => rfl
theorem hM_X9_prepare (E : qe_E) (L : Nat) : zM (qZ E L) 37 = qB_X9_prepare := rfl
theorem hp_X9_prepare (E : qe_E) (L : Nat) : ∀ b, zp (qZ E L) 37 b = qp_X9_prepare b := fun _ => rfl
theorem hM_X9_at (E : qe_E) (L : Nat) : zM (qZ E L) 38 = qB_X9_at := rfl
theorem hp_X9_at (E : qe_E) (L : Nat) : ∀ b, zp (qZ E L) 38 b = qp_X9_at b := fun _ => rfl
theorem hM_X9_put (E : qe_E) (L : Nat) : zM (qZ E L) 39 = qB_X9_put := rfl
theorem hp_X9_put (E : qe_E) (L : Nat) : ∀ b, zp (qZ E L) 39 b = qp_X9_put b := fun _ => rfl
theorem hM_X9_contains (E : qe_E) (L : Nat) : zM (qZ E L) 42 = qB_X9_contains := rfl
theorem hp_X9_contains (E : qe_E) (L : Nat) : ∀ b, zp (qZ E L) 42 b = qp_X9_contains b := fun _ => rfl
theorem hM_X9_isLetter (E : qe_E) (L : Nat) : zM (qZ E L) 43 = qB_X9_isLetter := rfl
theorem hp_X9_isLetter (E : qe_E) (L : Nat) : ∀ b, zp (qZ E L) 43 b = qp_X9_isLetter b := fun _ => rfl
theorem hM_X10_init (E : qe_E) (L : Nat) : zM (qZ E L) 47 = qB_X10_init := rfl
theorem hp_X10_init (E : qe_E) (L : Nat) : ∀ b, zp (qZ E L) 47 b = qp_X10_init b := fun _ => rfl
theorem hM_X10_in (E : qe_E) (L : Nat) : zM (qZ E L) 49 = qB_X10_in := rfl
theorem hp_X10_in (E : qe_E) (L : Nat) : ∀ b, zp (qZ E L) 49 b = qp_X10_in b := fun _ => rfl
theorem hM_X10_isSign (E : qe_E) (L : Nat) : zM (qZ E L) 51 = qB_X10_isSign := rfl
theorem hp_X10_isSign (E : qe_E) (L : Nat) : ∀ b, zp (qZ E L) 51 b = qp_X10_isSign b := fun _ => rfl
theorem hM_X10_at (E : qe_E) (L : Nat) : zM (qZ E L) 52 = qB_X10_at := rfl
theorem hp_X10_at (E : qe_E) (L : Nat) : ∀ b, zp (qZ E L) 52 b = qp_X10_at b := fun _ => rfl
theorem hM_X10_append (E : qe_E) (L : Nat) : zM (qZ E L) 53 = qB_X10_append := rfl
theorem hp_X10_append (E : qe_E) (L : Nat) : ∀ b, zp (qZ E L) 53 b = qp_X10_append b := fun _ => rfl
theorem hM_X10_keyAt (E : qe_E) (L : Nat) : zM (qZ E L) 55 = qB_X10_keyAt := rfl
theorem hp_X10_keyAt (E : qe_E) (L : Nat) : ∀ b, zp (qZ E L) 55 b = qp_X10_keyAt b := fun _ => rfl
theorem hM_X10_addKey (E : qe_E) (L : Nat) : zM (qZ E L) 56 = qB_X10_addKey := rfl
theorem hp_X10_addKey (E : qe_E) (L : Nat) : ∀ b, zp (qZ E L) 56 b = qp_X10_addKey b := fun _ => rfl
theorem hM_X10_add (E : qe_E) (L : Nat) : zM (qZ E L) 58 = qB_X10_add := rfl
theorem hp_X10_add (E : qe_E) (L : Nat) : ∀ b, zp (qZ E L) 58 b = qp_X10_add b := fun _ => rfl
theorem hM_X10_marked (E : qe_E) (L : Nat) : zM (qZ E L) 89 = qB_X10_marked := rfl
theorem hp_X10_marked (E : qe_E) (L : Nat) : ∀ b, zp (qZ E L) 89 b = qp_X10_marked b := fun _ => rfl
theorem hM_X10_positionOf (E : qe_E) (L : Nat) : zM (qZ E L) 91 = qB_X10_positionOf := rfl
theorem hp_X10_positionOf (E : qe_E) (L : Nat) : ∀ b, zp (qZ E L) 91 b = qp_X10_positionOf b := fun _ => rfl
theorem hM_X10_ofLength (E : qe_E) (L : Nat) : zM (qZ E L) 92 = qB_X10_ofLength := rfl
theorem hp_X10_ofLength (E : qe_E) (L : Nat) : ∀ b, zp (qZ E L) 92 b = qp_X10_ofLength b := fun _ => rfl
theorem hM_X10_child (E : qe_E) (L : Nat) : zM (qZ E L) 93 = qB_X10_child := rfl
theorem hp_X10_child (E : qe_E) (L : Nat) : ∀ b, zp (qZ E L) 93 b = qp_X10_child b := fun _ => rfl
theorem hM_X10_measure (E : qe_E) (L : Nat) : zM (qZ E L) 95 = qB_X10_measure := rfl
theorem hp_X10_measure (E : qe_E) (L : Nat) : ∀ b, zp (qZ E L) 95 b = qp_X10_measure b := fun _ => rfl
theorem hM_X10_trees (E : qe_E) (L : Nat) : zM (qZ E L) 96 = qB_X10_trees := rfl
theorem hp_X10_trees (E : qe_E) (L : Nat) : ∀ b, zp (qZ E L) 96 b = qp_X10_trees b := fun _ => rfl
theorem hM_X0_init (E : qe_E) (L : Nat) : zM (qZ E L) 138 = qB_X0_init := rfl
theorem hp_X0_init (E : qe_E) (L : Nat) : ∀ b, zp (qZ E L) 138 b = qp_X0_init b := fun _ => rfl
theorem hM_X1_init (E : qe_E) (L : Nat) : zM (qZ E L) 152 = qB_X1_init := rfl
theorem hp_X1_init (E : qe_E) (L : Nat) : ∀ b, zp (qZ E L) 152 b = qp_X1_init b := fun _ => rfl
theorem hM_X1_grow (E : qe_E) (L : Nat) : zM (qZ E L) 153 = qB_X1_grow := rfl
theorem hp_X1_grow (E : qe_E) (L : Nat) : ∀ b, zp (qZ E L) 153 b = qp_X1_grow b := fun _ => rfl
theorem hM_X1_isLeaf (E : qe_E) (L : Nat) : zM (qZ E L) 154 = qB_X1_isLeaf := rfl
theorem hp_X1_isLeaf (E : qe_E) (L : Nat) : ∀ b, zp (qZ E L) 154 b = qp_X1_isLeaf b := fun _ => rfl
theorem hM_X1_keyOf (E : qe_E) (L : Nat) : zM (qZ E L) 155 = qB_X1_keyOf := rfl
theorem hp_X1_keyOf (E : qe_E) (L : Nat) : ∀ b, zp (qZ E L) 155 b = qp_X1_keyOf b := fun _ => rfl
theorem hM_X1_plant (E : qe_E) (L : Nat) : zM (qZ E L) 159 = qB_X1_plant := rfl
theorem hp_X1_plant (E : qe_E) (L : Nat) : ∀ b, zp (qZ E L) 159 b = qp_X1_plant b := fun _ => rfl
theorem hM_X1_plantRoots (E : qe_E) (L : Nat) : zM (qZ E L) 160 = qB_X1_plantRoots := rfl
theorem hp_X1_plantRoots (E : qe_E) (L : Nat) : ∀ b, zp (qZ E L) 160 b = qp_X1_plantRoots b := fun _ => rfl
theorem hM_X1_split (E : qe_E) (L : Nat) : zM (qZ E L) 161 = qB_X1_split := rfl
theorem hp_X1_split (E : qe_E) (L : Nat) : ∀ b, zp (qZ E L) 161 b = qp_X1_split b := fun _ => rfl
theorem hM_X1_choosePosition (E : qe_E) (L : Nat) : zM (qZ E L) 162 = qB_X1_choosePosition := rfl
theorem hp_X1_choosePosition (E : qe_E) (L : Nat) : ∀ b, zp (qZ E L) 162 b = qp_X1_choosePosition b := fun _ => rfl
theorem hM_X1_penaltyOf (E : qe_E) (L : Nat) : zM (qZ E L) 163 = qB_X1_penaltyOf := rfl
theorem hp_X1_penaltyOf (E : qe_E) (L : Nat) : ∀ b, zp (qZ E L) 163 b = qp_X1_penaltyOf b := fun _ => rfl
theorem hM_X1_sortMembers (E : qe_E) (L : Nat) : zM (qZ E L) 164 = qB_X1_sortMembers := rfl
theorem hp_X1_sortMembers (E : qe_E) (L : Nat) : ∀ b, zp (qZ E L) 164 b = qp_X1_sortMembers b := fun _ => rfl
theorem hM_X2_init (E : qe_E) (L : Nat) : zM (qZ E L) 165 = qB_X2_init := rfl
theorem hp_X2_init (E : qe_E) (L : Nat) : ∀ b, zp (qZ E L) 165 b = qp_X2_init b := fun _ => rfl
theorem hM_X2_lengthOf (E : qe_E) (L : Nat) : zM (qZ E L) 167 = qB_X2_lengthOf := rfl
theorem hp_X2_lengthOf (E : qe_E) (L : Nat) : ∀ b, zp (qZ E L) 167 b = qp_X2_lengthOf b := fun _ => rfl
theorem hM_X2_letterAt (E : qe_E) (L : Nat) : zM (qZ E L) 168 = qB_X2_letterAt := rfl
theorem hp_X2_letterAt (E : qe_E) (L : Nat) : ∀ b, zp (qZ E L) 168 b = qp_X2_letterAt b := fun _ => rfl
theorem hM_X2_numberOf (E : qe_E) (L : Nat) : zM (qZ E L) 169 = qB_X2_numberOf := rfl
theorem hp_X2_numberOf (E : qe_E) (L : Nat) : ∀ b, zp (qZ E L) 169 b = qp_X2_numberOf b := fun _ => rfl
theorem hM_X2_beginsAt (E : qe_E) (L : Nat) : zM (qZ E L) 170 = qB_X2_beginsAt := rfl
theorem hp_X2_beginsAt (E : qe_E) (L : Nat) : ∀ b, zp (qZ E L) 170 b = qp_X2_beginsAt b := fun _ => rfl
theorem hM_X2_insert (E : qe_E) (L : Nat) : zM (qZ E L) 171 = qB_X2_insert := rfl
theorem hp_X2_insert (E : qe_E) (L : Nat) : ∀ b, zp (qZ E L) 171 b = qp_X2_insert b := fun _ => rfl
theorem hM_X2_firstDifference (E : qe_E) (L : Nat) : zM (qZ E L) 175 = qB_X2_firstDifference := rfl
theorem hp_X2_firstDifference (E : qe_E) (L : Nat) : ∀ b, zp (qZ E L) 175 b = qp_X2_firstDifference b := fun _ => rfl
theorem hM_X2_isLess (E : qe_E) (L : Nat) : zM (qZ E L) 176 = qB_X2_isLess := rfl
theorem hp_X2_isLess (E : qe_E) (L : Nat) : ∀ b, zp (qZ E L) 176 b = qp_X2_isLess b := fun _ => rfl
theorem hM_X2_rankOf (E : qe_E) (L : Nat) : zM (qZ E L) 177 = qB_X2_rankOf := rfl
theorem hp_X2_rankOf (E : qe_E) (L : Nat) : ∀ b, zp (qZ E L) 177 b = qp_X2_rankOf b := fun _ => rfl
theorem hM_X2_differences (E : qe_E) (L : Nat) : zM (qZ E L) 178 = qB_X2_differences := rfl
theorem hp_X2_differences (E : qe_E) (L : Nat) : ∀ b, zp (qZ E L) 178 b = qp_X2_differences b := fun _ => rfl
theorem hM_X2_writeKey (E : qe_E) (L : Nat) : zM (qZ E L) 181 = qB_X2_writeKey := rfl
theorem hp_X2_writeKey (E : qe_E) (L : Nat) : ∀ b, zp (qZ E L) 181 b = qp_X2_writeKey b := fun _ => rfl
theorem hM_X3_init (E : qe_E) (L : Nat) : zM (qZ E L) 182 = qB_X3_init := rfl
theorem hp_X3_init (E : qe_E) (L : Nat) : ∀ b, zp (qZ E L) 182 b = qp_X3_init b := fun _ => rfl
theorem hM_X4_init (E : qe_E) (L : Nat) : zM (qZ E L) 190 = qB_X4_init := rfl
theorem hp_X4_init (E : qe_E) (L : Nat) : ∀ b, zp (qZ E L) 190 b = qp_X4_init b := fun _ => rfl
theorem hM_X4_sort (E : qe_E) (L : Nat) : zM (qZ E L) 191 = qB_X4_sort := rfl
theorem hp_X4_sort (E : qe_E) (L : Nat) : ∀ b, zp (qZ E L) 191 b = qp_X4_sort b := fun _ => rfl
theorem hM_X5_init (E : qe_E) (L : Nat) : zM (qZ E L) 192 = qB_X5_init := rfl
theorem hp_X5_init (E : qe_E) (L : Nat) : ∀ b, zp (qZ E L) 192 b = qp_X5_init b := fun _ => rfl
theorem hM_X6_init (E : qe_E) (L : Nat) : zM (qZ E L) 202 = qB_X6_init := rfl
theorem hp_X6_init (E : qe_E) (L : Nat) : ∀ b, zp (qZ E L) 202 b = qp_X6_init b := fun _ => rfl
theorem hM_X6_choose (E : qe_E) (L : Nat) : zM (qZ E L) 203 = qB_X6_choose := rfl
theorem hp_X6_choose (E : qe_E) (L : Nat) : ∀ b, zp (qZ E L) 203 b = qp_X6_choose b := fun _ => rfl
theorem hM_X6_turned (E : qe_E) (L : Nat) : zM (qZ E L) 204 = qB_X6_turned := rfl
theorem hp_X6_turned (E : qe_E) (L : Nat) : ∀ b, zp (qZ E L) 204 b = qp_X6_turned b := fun _ => rfl
theorem hM_X6_collectPairs (E : qe_E) (L : Nat) : zM (qZ E L) 205 = qB_X6_collectPairs := rfl
theorem hp_X6_collectPairs (E : qe_E) (L : Nat) : ∀ b, zp (qZ E L) 205 b = qp_X6_collectPairs b := fun _ => rfl
theorem hM_X6_separates (E : qe_E) (L : Nat) : zM (qZ E L) 206 = qB_X6_separates := rfl
theorem hp_X6_separates (E : qe_E) (L : Nat) : ∀ b, zp (qZ E L) 206 b = qp_X6_separates b := fun _ => rfl
theorem hM_X6_hashOf (E : qe_E) (L : Nat) : zM (qZ E L) 207 = qB_X6_hashOf := rfl
theorem hp_X6_hashOf (E : qe_E) (L : Nat) : ∀ b, zp (qZ E L) 207 b = qp_X6_hashOf b := fun _ => rfl
theorem hM_X7_init (E : qe_E) (L : Nat) : zM (qZ E L) 208 = qB_X7_init := rfl
theorem hp_X7_init (E : qe_E) (L : Nat) : ∀ b, zp (qZ E L) 208 b = qp_X7_init b := fun _ => rfl
theorem hM_X7_build (E : qe_E) (L : Nat) : zM (qZ E L) 209 = qB_X7_build := rfl
theorem hp_X7_build (E : qe_E) (L : Nat) : ∀ b, zp (qZ E L) 209 b = qp_X7_build b := fun _ => rfl
theorem hM_X7_trySeed (E : qe_E) (L : Nat) : zM (qZ E L) 210 = qB_X7_trySeed := rfl
theorem hp_X7_trySeed (E : qe_E) (L : Nat) : ∀ b, zp (qZ E L) 210 b = qp_X7_trySeed b := fun _ => rfl
theorem hM_X7_hashKeys (E : qe_E) (L : Nat) : zM (qZ E L) 211 = qB_X7_hashKeys := rfl
theorem hp_X7_hashKeys (E : qe_E) (L : Nat) : ∀ b, zp (qZ E L) 211 b = qp_X7_hashKeys b := fun _ => rfl
theorem hM_X7_place (E : qe_E) (L : Nat) : zM (qZ E L) 212 = qB_X7_place := rfl
theorem hp_X7_place (E : qe_E) (L : Nat) : ∀ b, zp (qZ E L) 212 b = qp_X7_place b := fun _ => rfl
theorem hM_X7_takeSlots (E : qe_E) (L : Nat) : zM (qZ E L) 213 = qB_X7_takeSlots := rfl
theorem hp_X7_takeSlots (E : qe_E) (L : Nat) : ∀ b, zp (qZ E L) 213 b = qp_X7_takeSlots b := fun _ => rfl
theorem hM_X7_nameOwners (E : qe_E) (L : Nat) : zM (qZ E L) 214 = qB_X7_nameOwners := rfl
theorem hp_X7_nameOwners (E : qe_E) (L : Nat) : ∀ b, zp (qZ E L) 214 b = qp_X7_nameOwners b := fun _ => rfl
theorem hM_X7_slotFor (E : qe_E) (L : Nat) : zM (qZ E L) 215 = qB_X7_slotFor := rfl
theorem hp_X7_slotFor (E : qe_E) (L : Nat) : ∀ b, zp (qZ E L) 215 b = qp_X7_slotFor b := fun _ => rfl
theorem hM_X7_bucketFor (E : qe_E) (L : Nat) : zM (qZ E L) 216 = qB_X7_bucketFor := rfl
theorem hp_X7_bucketFor (E : qe_E) (L : Nat) : ∀ b, zp (qZ E L) 216 b = qp_X7_bucketFor b := fun _ => rfl
theorem hM_X8_init (E : qe_E) (L : Nat) : zM (qZ E L) 218 = qB_X8_init := rfl
theorem hp_X8_init (E : qe_E) (L : Nat) : ∀ b, zp (qZ E L) 218 b = qp_X8_init b := fun _ => rfl
theorem hM_X8_empty (E : qe_E) (L : Nat) : zM (qZ E L) 219 = qB_X8_empty := rfl
theorem hp_X8_empty (E : qe_E) (L : Nat) : ∀ b, zp (qZ E L) 219 b = qp_X8_empty b := fun _ => rfl
theorem hM_X8_signAt (E : qe_E) (L : Nat) : zM (qZ E L) 220 = qB_X8_signAt := rfl
theorem hp_X8_signAt (E : qe_E) (L : Nat) : ∀ b, zp (qZ E L) 220 b = qp_X8_signAt b := fun _ => rfl
theorem hM_X8_write (E : qe_E) (L : Nat) : zM (qZ E L) 221 = qB_X8_write := rfl
theorem hp_X8_write (E : qe_E) (L : Nat) : ∀ b, zp (qZ E L) 221 b = qp_X8_write b := fun _ => rfl
theorem hM_X8_isKeySign (E : qe_E) (L : Nat) : zM (qZ E L) 223 = qB_X8_isKeySign := rfl
theorem hp_X8_isKeySign (E : qe_E) (L : Nat) : ∀ b, zp (qZ E L) 223 b = qp_X8_isKeySign b := fun _ => rfl
theorem hM_X8_isKey (E : qe_E) (L : Nat) : zM (qZ E L) 224 = qB_X8_isKey := rfl
theorem hp_X8_isKey (E : qe_E) (L : Nat) : ∀ b, zp (qZ E L) 224 b = qp_X8_isKey b := fun _ => rfl
theorem hM_L_append (E : qe_E) (L : Nat) : zM (qZ E L) 225 = qB_L_append := rfl
theorem hp_L_append (E : qe_E) (L : Nat) : ∀ b, zp (qZ E L) 225 b = qp_L_append b := fun _ => rfl
theorem hM_L_add (E : qe_E) (L : Nat) : zM (qZ E L) 226 = qB_L_add := rfl
theorem hp_L_add (E : qe_E) (L : Nat) : ∀ b, zp (qZ E L) 226 b = qp_L_add b := fun _ => rfl
theorem hM_L_trees (E : qe_E) (L : Nat) : zM (qZ E L) 242 = qB_L_trees := rfl
theorem hp_L_trees (E : qe_E) (L : Nat) : ∀ b, zp (qZ E L) 242 b = qp_L_trees b := fun _ => rfl
theorem hM_L_law (E : qe_E) (L : Nat) : zM (qZ E L) 249 = qB_L_law := rfl
theorem hp_L_law (E : qe_E) (L : Nat) : ∀ b, zp (qZ E L) 249 b = qp_L_law b := fun _ => rfl
theorem hM_J6_bitCount_0f7a4 (E : qe_E) (L : Nat) : zM (qZ E L) 250 = qB_J6_bitCount_0f7a4 := rfl
theorem hp_J6_bitCount_0f7a4 (E : qe_E) (L : Nat) : ∀ b, zp (qZ E L) 250 b = qp_J6_bitCount_0f7a4 b := fun _ => rfl
theorem qnx {E : qe_E} {L : Nat} {A : Nat → Prop} {s : State} {H : Heap} (hx : zX (qZ E L) A s H) : ∀ q ∈ qw_Os.1, va_Nw (Cond.methodLinkNest q.1 q.2.1 q.2.2.1 q.2.2.2) s := (show qw_X qw_Os E.2.2.1 L E.2.2.2 A s H from hx).2.1.1
theorem qnx_0 (E : qe_E) (L : Nat) : ∀ (A : Nat → Prop) (s : State) (H : Heap), zX (qZ E L) A s H → va_Nw (Cond.methodLinkNest RX9 20 yX2_init "TextSwitchCompiler") s := fun A s H hx => qnx hx ("TextSwitchCompiler", 20, (⟨"TextSwitchCompiler$Keys", "<init>", "()V"⟩ : MethodName), "TextSwitchCompiler") qne_0
theorem qnx_1 (E : qe_E) (L : Nat) : ∀ (A : Nat → Prop) (s : State) (H : Heap), zX (qZ E L) A s H → va_Nw (Cond.methodLinkNest RX9 34 yX0_init "TextSwitchCompiler") s := fun A s H hx => qnx hx ("TextSwitchCompiler", 34, (⟨"TextSwitchCompiler$Commands", "<init>", "()V"⟩ : MethodName), "TextSwitchCompiler") qne_1
theorem qnx_2 (E : qe_E) (L : Nat) : ∀ (A : Nat → Prop) (s : State) (H : Heap), zX (qZ E L) A s H → va_Nw (Cond.methodLinkNest RX0 29 yX2_init "TextSwitchCompiler") s := fun A s H hx => qnx hx ("TextSwitchCompiler$Commands", 29, (⟨"TextSwitchCompiler$Keys", "<init>", "()V"⟩ : MethodName), "TextSwitchCompiler") qne_2
theorem qnx_3 (E : qe_E) (L : Nat) : ∀ (A : Nat → Prop) (s : State) (H : Heap), zX (qZ E L) A s H → va_Nw (Cond.methodLinkNest RX1 60 yX9_at "TextSwitchCompiler") s := fun A s H hx => qnx hx ("TextSwitchCompiler$Forest", 60, (⟨"TextSwitchCompiler", "at", "([II)I"⟩ : MethodName), "TextSwitchCompiler") qne_3
theorem qnx_4 (E : qe_E) (L : Nat) : ∀ (A : Nat → Prop) (s : State) (H : Heap), zX (qZ E L) A s H → va_Nw (Cond.methodLinkNest RX1 78 yX9_put "TextSwitchCompiler") s := fun A s H hx => qnx hx ("TextSwitchCompiler$Forest", 78, (⟨"TextSwitchCompiler", "put", "([III)V"⟩ : MethodName), "TextSwitchCompiler") qne_4
theorem qnx_5 (E : qe_E) (L : Nat) : ∀ (A : Nat → Prop) (s : State) (H : Heap), zX (qZ E L) A s H → va_Nw (Cond.methodLinkNest RX2 55 yX9_put "TextSwitchCompiler") s := fun A s H hx => qnx hx ("TextSwitchCompiler$Keys", 55, (⟨"TextSwitchCompiler", "put", "([III)V"⟩ : MethodName), "TextSwitchCompiler") qne_5
theorem qnx_6 (E : qe_E) (L : Nat) : ∀ (A : Nat → Prop) (s : State) (H : Heap), zX (qZ E L) A s H → va_Nw (Cond.methodLinkNest RX4 29 yX9_put "TextSwitchCompiler") s := fun A s H hx => qnx hx ("TextSwitchCompiler$Order", 29, (⟨"TextSwitchCompiler", "put", "([III)V"⟩ : MethodName), "TextSwitchCompiler") qne_6
theorem qnx_7 (E : qe_E) (L : Nat) : ∀ (A : Nat → Prop) (s : State) (H : Heap), zX (qZ E L) A s H → va_Nw (Cond.methodLinkNest RX6 42 yX9_contains "TextSwitchCompiler") s := fun A s H hx => qnx hx ("TextSwitchCompiler$Selection", 42, (⟨"TextSwitchCompiler", "contains", "(II)Z"⟩ : MethodName), "TextSwitchCompiler") qne_7
theorem qnx_8 (E : qe_E) (L : Nat) : ∀ (A : Nat → Prop) (s : State) (H : Heap), zX (qZ E L) A s H → va_Nw (Cond.methodLinkNest RX6 58 yX9_put "TextSwitchCompiler") s := fun A s H hx => qnx hx ("TextSwitchCompiler$Selection", 58, (⟨"TextSwitchCompiler", "put", "([III)V"⟩ : MethodName), "TextSwitchCompiler") qne_8
theorem qnx_9 (E : qe_E) (L : Nat) : ∀ (A : Nat → Prop) (s : State) (H : Heap), zX (qZ E L) A s H → va_Nw (Cond.methodLinkNest RX6 62 yX9_at "TextSwitchCompiler") s := fun A s H hx => qnx hx ("TextSwitchCompiler$Selection", 62, (⟨"TextSwitchCompiler", "at", "([II)I"⟩ : MethodName), "TextSwitchCompiler") qne_9
theorem qnx_10 (E : qe_E) (L : Nat) : ∀ (A : Nat → Prop) (s : State) (H : Heap), zX (qZ E L) A s H → va_Nw (Cond.methodLinkNest RX7 80 yX9_at "TextSwitchCompiler") s := fun A s H hx => qnx hx ("TextSwitchCompiler$Table", 80, (⟨"TextSwitchCompiler", "at", "([II)I"⟩ : MethodName), "TextSwitchCompiler") qne_10
theorem qnx_11 (E : qe_E) (L : Nat) : ∀ (A : Nat → Prop) (s : State) (H : Heap), zX (qZ E L) A s H → va_Nw (Cond.methodLinkNest RX7 90 yX9_put "TextSwitchCompiler") s := fun A s H hx => qnx hx ("TextSwitchCompiler$Table", 90, (⟨"TextSwitchCompiler", "put", "([III)V"⟩ : MethodName), "TextSwitchCompiler") qne_11
theorem qnx_12 (E : qe_E) (L : Nat) : ∀ (A : Nat → Prop) (s : State) (H : Heap), zX (qZ E L) A s H → va_Nw (Cond.methodLinkNest RX8 33 yX9_isLetter "TextSwitchCompiler") s := fun A s H hx => qnx hx ("TextSwitchCompiler$Text", 33, (⟨"TextSwitchCompiler", "isLetter", "(I)Z"⟩ : MethodName), "TextSwitchCompiler") qne_12
end QEHB
