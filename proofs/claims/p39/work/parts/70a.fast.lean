/-! THE TABLES FIT, quicker: the words looked up by the lists that the tables are made of. -/
/-! DECODING, quicker: the bytes of an instruction, one walk over a method's bytes. -/
def dk (pc : Nat) : {f : Nat → Decoder Instr // Decoder.instr pc = (do let x ← Reader.u1; f x)} := ⟨_, rfl⟩
def rd1 (b : ByteArray) (p : Nat) : Except DecodeError (Nat × Nat) := (Reader.u1 : Decoder Nat) b p
def rd2 (b : ByteArray) (p : Nat) : Except DecodeError (Nat × Nat) := (Reader.u2 : Decoder Nat) b p
def dkr (pc op : Nat) (b : ByteArray) (p : Nat) : Except DecodeError (Instr × Nat) := (dk pc).1 op b p
def at_ (b : ByteArray) : Nat → List Nat → Prop
  | _, [] => True
  | p, v :: r => rd1 b p = .ok (v, p + 1) ∧ at_ b (p + 1) r
theorem rd2_at {b : ByteArray} {p x y : Nat} (h1 : rd1 b p = .ok (x, p + 1)) (h2 : rd1 b (p + 1) = .ok (y, p + 1 + 1)) : rd2 b p = .ok (x * 256 + y, p + 1 + 1) := by
  show Except.bind (rd1 b p) (fun q => Except.bind (rd1 b q.2) (fun r => Except.ok (q.1 * 256 + r.1, r.2))) = _
  rw [h1]
  show Except.bind (rd1 b (p + 1)) _ = _
  rw [h2]
  rfl
theorem dec_go {b : ByteArray} {pc op n m : Nat} {i : Instr} (h : rd1 b pc = .ok (op, pc + 1)) (hk : dkr pc op b (pc + 1) = .ok (i, m)) (hm : m = pc + n) : decode b pc = .ok (i, n) := by
  have e : Decoder.instr pc b pc = .ok (i, m) := by
    rw [(dk pc).2]
    show Except.bind (rd1 b pc) (fun q => dkr pc q.1 b q.2) = _
    rw [h]
    exact hk
  unfold decode Reader.runAt
  show Except.bind (Decoder.instr pc b pc) (fun q => Except.ok (q.1, q.2 - pc)) = _
  rw [e]
  show Except.ok (i, m - pc) = _
  rw [hm, Nat.add_sub_cancel_left]
theorem inj {l m : List Nat} (h : some l = some m) : m = l := (Option.some.inj h).symm
theorem x0 {b : ByteArray} {pc op : Nat} {i : Instr} {l : List Nat} (hk : ∀ b p, dkr pc op b p = .ok (i, p)) (e : l = [op]) (H : at_ b pc l) : decode b pc = .ok (i, l.length) := by
  subst e
  exact dec_go H.1 (hk b (pc + 1)) rfl
theorem xu1 {b : ByteArray} {pc op n : Nat} {F : Nat → Instr} {l : List Nat} (hk : ∀ b p, dkr pc op b p = Except.bind (rd1 b p) (fun q => .ok (F q.1, q.2))) (e : l = [op, n]) (H : at_ b pc l) : decode b pc = .ok (F n, l.length) := by
  subst e
  obtain ⟨h1, h2, -⟩ := H
  exact dec_go h1 (by rw [hk, h2]; rfl) rfl
theorem xu2 {b : ByteArray} {pc op n : Nat} {F : Nat → Instr} {l : List Nat} (hk : ∀ b p, dkr pc op b p = Except.bind (rd2 b p) (fun q => .ok (F q.1, q.2))) (e : l = [op, n / 256, n % 256]) (H : at_ b pc l) : decode b pc = .ok (F n, l.length) := by
  subst e
  obtain ⟨h1, h2, h3, -⟩ := H
  have e : n / 256 * 256 + n % 256 = n := by omega
  exact dec_go h1 (by rw [hk, rd2_at h2 h3, e]; rfl) rfl
def e_s1 (op : Nat) (v : Int) : Option (List Nat) := if Reader.signed 8 (v % 256).toNat = v then some [op, (v % 256).toNat] else none
def e_s2 (op : Nat) (v : Int) : Option (List Nat) := if Reader.signed 16 (v % 65536).toNat = v then some [op, (v % 65536).toNat / 256, (v % 65536).toNat % 256] else none
def e_ii (op n : Nat) (v : Int) : Option (List Nat) := if Reader.signed 8 (v % 256).toNat = v then some [op, n, (v % 256).toNat] else none
theorem xs1 {b : ByteArray} {pc op : Nat} {v : Int} {F : Int → Instr} {l : List Nat} (hk : ∀ b p, dkr pc op b p = Except.bind (Except.bind (rd1 b p) (fun q => .ok (Reader.signed 8 q.1, q.2))) (fun r => .ok (F r.1, r.2))) (e : e_s1 op v = some l) (H : at_ b pc l) : decode b pc = .ok (F v, l.length) := by
  unfold e_s1 at e
  by_cases hv : Reader.signed 8 (v % 256).toNat = v
  · rw [if_pos hv] at e
    cases e
    obtain ⟨h1, h2, -⟩ := H
    exact dec_go h1 (by rw [hk, h2]; show Except.ok (F (Reader.signed 8 (v % 256).toNat), _) = _; rw [hv]; rfl) rfl
  · rw [if_neg hv] at e; exact nomatch e
theorem xs2 {b : ByteArray} {pc op : Nat} {v : Int} {F : Int → Instr} {l : List Nat} (hk : ∀ b p, dkr pc op b p = Except.bind (Except.bind (rd2 b p) (fun q => .ok (Reader.signed 16 q.1, q.2))) (fun r => .ok (F r.1, r.2))) (e : e_s2 op v = some l) (H : at_ b pc l) : decode b pc = .ok (F v, l.length) := by
  unfold e_s2 at e
  by_cases hv : Reader.signed 16 (v % 65536).toNat = v
  · rw [if_pos hv] at e
    cases e
    obtain ⟨h1, h2, h3, -⟩ := H
    have e : (v % 65536).toNat / 256 * 256 + (v % 65536).toNat % 256 = (v % 65536).toNat := by omega
    exact dec_go h1 (by rw [hk, rd2_at h2 h3, e]; show Except.ok (F (Reader.signed 16 (v % 65536).toNat), _) = _; rw [hv]; rfl) rfl
  · rw [if_neg hv] at e; exact nomatch e
def aty8 : ArrayType → Nat
  | .boolean => 4
  | .char => 5
  | .float => 6
  | .double => 7
  | .byte => 8
  | .short => 9
  | .int => 10
  | .long => 11
def enc : Instr → Option (List Nat)
  | .aload_n n => some [42 + n.val]
  | .getfield n => some [180, n / 256, n % 256]
  | .iload_n n => some [26 + n.val]
  | .iconst v => if v = -1 then some [2] else if v = 0 then some [3] else if v = 1 then some [4] else if v = 2 then some [5] else if v = 3 then some [6] else if v = 4 then some [7] else if v = 5 then some [8] else none
  | .if_icmp c v => e_s2 (match c with | .eq => 159 | .ne => 160 | .lt => 161 | .ge => 162 | .gt => 163 | .le => 164) v
  | .invokevirtual n => some [182, n / 256, n % 256]
  | .iaload => some [46]
  | .iload n => some [21, n]
  | .bipush v => e_s1 16 v
  | .ifCond c v => e_s2 (match c with | .eq => 153 | .ne => 154 | .lt => 155 | .ge => 156 | .gt => 157 | .le => 158) v
  | .goto v => e_s2 167 v
  | .iadd => some [96]
  | .ireturn => some [172]
  | .putfield n => some [181, n / 256, n % 256]
  | .iastore => some [79]
  | .istore_n n => some [59 + n.val]
  | .istore n => some [54, n]
  | .sipush v => e_s2 17 v
  | .iinc n v => e_ii 132 n v
  | .return_ => some [177]
  | .invokestatic n => some [184, n / 256, n % 256]
  | .aaload => some [50]
  | .imul => some [104]
  | .isub => some [100]
  | .dup => some [89]
  | .getstatic n => some [178, n / 256, n % 256]
  | .lload_n n => some [30 + n.val]
  | .lcmp => some [148]
  | .iand => some [126]
  | .baload => some [51]
  | .ior => some [128]
  | .ishl => some [120]
  | .ishr => some [122]
  | .invokespecial n => some [183, n / 256, n % 256]
  | .ldc n => some [18, n]
  | .dup2 => some [92]
  | .idiv => some [108]
  | .lastore => some [80]
  | .laload => some [47]
  | .bastore => some [84]
  | .new n => some [187, n / 256, n % 256]
  | .irem => some [112]
  | .aload n => some [25, n]
  | .arraylength => some [190]
  | .ldc_w n => some [19, n / 256, n % 256]
  | .lconst n => some [9 + n.val]
  | .astore_n n => some [75 + n.val]
  | .iushr => some [124]
  | .ixor => some [130]
  | .i2l => some [133]
  | .lor => some [129]
  | .lshl => some [121]
  | .l2i => some [136]
  | .pop => some [87]
  | .lstore_n n => some [63 + n.val]
  | .i2c => some [146]
  | .ldc2_w n => some [20, n / 256, n % 256]
  | .ineg => some [116]
  | .astore n => some [58, n]
  | .lload n => some [22, n]
  | .land => some [127]
  | .lstore n => some [55, n]
  | .lshr => some [123]
  | .lxor => some [131]
  | .lmul => some [105]
  | .lushr => some [125]
  | .i2b => some [145]
  | .areturn => some [176]
  | .ladd => some [97]
  | .lsub => some [101]
  | .newarray t => some [188, aty8 t]
  | .multianewarray n d => if d = 0 then none else some [197, n / 256, n % 256, d]
  | _ => none
theorem xii {b : ByteArray} {pc n : Nat} {v : Int} {l : List Nat} (hk : ∀ b p, dkr pc 132 b p = Except.bind (rd1 b p) (fun q => Except.bind (Except.bind (rd1 b q.2) (fun r => .ok (Reader.signed 8 r.1, r.2))) (fun r => .ok (.iinc q.1 r.1, r.2)))) (e : e_ii 132 n v = some l) (H : at_ b pc l) : decode b pc = .ok (.iinc n v, l.length) := by
  unfold e_ii at e
  by_cases hv : Reader.signed 8 (v % 256).toNat = v
  · rw [if_pos hv] at e
    cases e
    obtain ⟨h1, h2, h3, -⟩ := H
    refine dec_go h1 (m := pc + 1 + 1 + 1) ?_ rfl
    rw [hk, h2]
    show Except.bind (Except.bind (rd1 b (pc + 1 + 1)) _) _ = _
    rw [h3]
    show Except.ok (Instr.iinc n (Reader.signed 8 (v % 256).toNat), _) = _
    rw [hv]
  · rw [if_neg hv] at e; exact nomatch e
theorem xic {b : ByteArray} {pc : Nat} {v : Int} {l : List Nat} (h : enc (.iconst v) = some l) (H : at_ b pc l) : decode b pc = .ok (.iconst v, l.length) := by
  unfold enc at h
  dsimp only at h
  split at h
  · next e => subst e; exact x0 (fun _ _ => rfl) (inj h) H
  split at h
  · next e => subst e; exact x0 (fun _ _ => rfl) (inj h) H
  split at h
  · next e => subst e; exact x0 (fun _ _ => rfl) (inj h) H
  split at h
  · next e => subst e; exact x0 (fun _ _ => rfl) (inj h) H
  split at h
  · next e => subst e; exact x0 (fun _ _ => rfl) (inj h) H
  split at h
  · next e => subst e; exact x0 (fun _ _ => rfl) (inj h) H
  split at h
  · next e => subst e; exact x0 (fun _ _ => rfl) (inj h) H
  exact nomatch h
set_option maxRecDepth 100000 in
theorem dkr188 (pc : Nat) (b : ByteArray) (p : Nat) : ∃ f : Nat × Nat → Except DecodeError (Instr × Nat), dkr pc 188 b p = Except.bind (rd1 b p) f ∧ ∀ t q, f (aty8 t, q) = .ok (.newarray t, q) := ⟨_, rfl, by intro t q; cases t <;> rfl⟩
theorem xnt {b : ByteArray} {pc : Nat} {t : ArrayType} {l : List Nat} (e : l = [188, aty8 t]) (H : at_ b pc l) : decode b pc = .ok (.newarray t, l.length) := by
  subst e
  obtain ⟨h1, h2, -⟩ := H
  refine dec_go h1 (m := pc + 1 + 1) ?_ rfl
  obtain ⟨f, hf, hg⟩ := dkr188 pc b (pc + 1)
  rw [hf, h2]
  exact hg _ _
set_option maxRecDepth 100000 in
theorem xma {b : ByteArray} {pc n d : Nat} {l : List Nat} (h : enc (.multianewarray n d) = some l) (H : at_ b pc l) : decode b pc = .ok (.multianewarray n d, l.length) := by
  unfold enc at h
  dsimp only at h
  split at h
  · exact nomatch h
  next hd =>
  cases h
  obtain ⟨h1, h2, h3, h4, -⟩ := H
  have e : n / 256 * 256 + n % 256 = n := by omega
  refine dec_go h1 (m := pc + 1 + 1 + 1 + 1) ?_ rfl
  obtain ⟨f, hf, hg⟩ : ∃ f : Nat × Nat → Except DecodeError (Instr × Nat), dkr pc 197 b (pc + 1) = Except.bind (rd2 b (pc + 1)) f ∧ ∀ x q, ∃ g : Nat × Nat → Except DecodeError (Instr × Nat), f (x, q) = Except.bind (rd1 b q) g ∧ ∀ k r, g (k + 1, r) = .ok (.multianewarray x (k + 1), r) := ⟨_, rfl, fun _ _ => ⟨_, rfl, fun _ _ => rfl⟩⟩
  rw [hf, rd2_at h2 h3, e]
  obtain ⟨g, hg1, hg2⟩ := hg n (pc + 1 + 1 + 1)
  show f (n, pc + 1 + 1 + 1) = _
  rw [hg1, h4]
  obtain ⟨k, rfl⟩ : ∃ k, d = k + 1 := ⟨d - 1, by omega⟩
  exact hg2 _ _
set_option maxRecDepth 100000 in
theorem enc_ok {b : ByteArray} {pc : Nat} {i : Instr} {l : List Nat} (h : enc i = some l) (H : at_ b pc l) : decode b pc = .ok (i, l.length) := by
  cases i with
  | aload_n n =>
    match n, h with
    | 0, h => exact x0 (fun _ _ => rfl) (inj h) H
    | 1, h => exact x0 (fun _ _ => rfl) (inj h) H
    | 2, h => exact x0 (fun _ _ => rfl) (inj h) H
    | 3, h => exact x0 (fun _ _ => rfl) (inj h) H
  | getfield n => exact xu2 (F := .getfield) (fun _ _ => rfl) (inj h) H
  | iload_n n =>
    match n, h with
    | 0, h => exact x0 (fun _ _ => rfl) (inj h) H
    | 1, h => exact x0 (fun _ _ => rfl) (inj h) H
    | 2, h => exact x0 (fun _ _ => rfl) (inj h) H
    | 3, h => exact x0 (fun _ _ => rfl) (inj h) H
  | iconst v => exact xic h H
  | if_icmp c v =>
    match c, h with
    | .eq, h => exact xs2 (op := 159) (F := .if_icmp .eq) (fun _ _ => rfl) h H
    | .ne, h => exact xs2 (op := 160) (F := .if_icmp .ne) (fun _ _ => rfl) h H
    | .lt, h => exact xs2 (op := 161) (F := .if_icmp .lt) (fun _ _ => rfl) h H
    | .ge, h => exact xs2 (op := 162) (F := .if_icmp .ge) (fun _ _ => rfl) h H
    | .gt, h => exact xs2 (op := 163) (F := .if_icmp .gt) (fun _ _ => rfl) h H
    | .le, h => exact xs2 (op := 164) (F := .if_icmp .le) (fun _ _ => rfl) h H
  | invokevirtual n => exact xu2 (F := .invokevirtual) (fun _ _ => rfl) (inj h) H
  | iaload => exact x0 (fun _ _ => rfl) (inj h) H
  | iload n => exact xu1 (F := .iload) (fun _ _ => rfl) (inj h) H
  | bipush v => exact xs1 (F := .bipush) (fun _ _ => rfl) h H
  | ifCond c v =>
    match c, h with
    | .eq, h => exact xs2 (op := 153) (F := .ifCond .eq) (fun _ _ => rfl) h H
    | .ne, h => exact xs2 (op := 154) (F := .ifCond .ne) (fun _ _ => rfl) h H
    | .lt, h => exact xs2 (op := 155) (F := .ifCond .lt) (fun _ _ => rfl) h H
    | .ge, h => exact xs2 (op := 156) (F := .ifCond .ge) (fun _ _ => rfl) h H
    | .gt, h => exact xs2 (op := 157) (F := .ifCond .gt) (fun _ _ => rfl) h H
    | .le, h => exact xs2 (op := 158) (F := .ifCond .le) (fun _ _ => rfl) h H
  | goto v => exact xs2 (F := .goto) (fun _ _ => rfl) h H
  | iadd => exact x0 (fun _ _ => rfl) (inj h) H
  | ireturn => exact x0 (fun _ _ => rfl) (inj h) H
  | putfield n => exact xu2 (F := .putfield) (fun _ _ => rfl) (inj h) H
  | iastore => exact x0 (fun _ _ => rfl) (inj h) H
  | istore_n n =>
    match n, h with
    | 0, h => exact x0 (fun _ _ => rfl) (inj h) H
    | 1, h => exact x0 (fun _ _ => rfl) (inj h) H
    | 2, h => exact x0 (fun _ _ => rfl) (inj h) H
    | 3, h => exact x0 (fun _ _ => rfl) (inj h) H
  | istore n => exact xu1 (F := .istore) (fun _ _ => rfl) (inj h) H
  | sipush v => exact xs2 (F := .sipush) (fun _ _ => rfl) h H
  | iinc n v => exact xii (fun _ _ => rfl) h H
  | return_ => exact x0 (fun _ _ => rfl) (inj h) H
  | invokestatic n => exact xu2 (F := .invokestatic) (fun _ _ => rfl) (inj h) H
  | aaload => exact x0 (fun _ _ => rfl) (inj h) H
  | imul => exact x0 (fun _ _ => rfl) (inj h) H
  | isub => exact x0 (fun _ _ => rfl) (inj h) H
  | dup => exact x0 (fun _ _ => rfl) (inj h) H
  | getstatic n => exact xu2 (F := .getstatic) (fun _ _ => rfl) (inj h) H
  | lload_n n =>
    match n, h with
    | 0, h => exact x0 (fun _ _ => rfl) (inj h) H
    | 1, h => exact x0 (fun _ _ => rfl) (inj h) H
    | 2, h => exact x0 (fun _ _ => rfl) (inj h) H
    | 3, h => exact x0 (fun _ _ => rfl) (inj h) H
  | lcmp => exact x0 (fun _ _ => rfl) (inj h) H
  | iand => exact x0 (fun _ _ => rfl) (inj h) H
  | baload => exact x0 (fun _ _ => rfl) (inj h) H
  | ior => exact x0 (fun _ _ => rfl) (inj h) H
  | ishl => exact x0 (fun _ _ => rfl) (inj h) H
  | ishr => exact x0 (fun _ _ => rfl) (inj h) H
  | invokespecial n => exact xu2 (F := .invokespecial) (fun _ _ => rfl) (inj h) H
  | ldc n => exact xu1 (F := .ldc) (fun _ _ => rfl) (inj h) H
  | dup2 => exact x0 (fun _ _ => rfl) (inj h) H
  | idiv => exact x0 (fun _ _ => rfl) (inj h) H
  | lastore => exact x0 (fun _ _ => rfl) (inj h) H
  | laload => exact x0 (fun _ _ => rfl) (inj h) H
  | bastore => exact x0 (fun _ _ => rfl) (inj h) H
  | new n => exact xu2 (F := .new) (fun _ _ => rfl) (inj h) H
  | irem => exact x0 (fun _ _ => rfl) (inj h) H
  | aload n => exact xu1 (F := .aload) (fun _ _ => rfl) (inj h) H
  | arraylength => exact x0 (fun _ _ => rfl) (inj h) H
  | ldc_w n => exact xu2 (F := .ldc_w) (fun _ _ => rfl) (inj h) H
  | lconst n =>
    match n, h with
    | 0, h => exact x0 (fun _ _ => rfl) (inj h) H
    | 1, h => exact x0 (fun _ _ => rfl) (inj h) H
  | astore_n n =>
    match n, h with
    | 0, h => exact x0 (fun _ _ => rfl) (inj h) H
    | 1, h => exact x0 (fun _ _ => rfl) (inj h) H
    | 2, h => exact x0 (fun _ _ => rfl) (inj h) H
    | 3, h => exact x0 (fun _ _ => rfl) (inj h) H
  | iushr => exact x0 (fun _ _ => rfl) (inj h) H
  | ixor => exact x0 (fun _ _ => rfl) (inj h) H
  | i2l => exact x0 (fun _ _ => rfl) (inj h) H
  | lor => exact x0 (fun _ _ => rfl) (inj h) H
  | lshl => exact x0 (fun _ _ => rfl) (inj h) H
  | l2i => exact x0 (fun _ _ => rfl) (inj h) H
  | pop => exact x0 (fun _ _ => rfl) (inj h) H
  | lstore_n n =>
    match n, h with
    | 0, h => exact x0 (fun _ _ => rfl) (inj h) H
    | 1, h => exact x0 (fun _ _ => rfl) (inj h) H
    | 2, h => exact x0 (fun _ _ => rfl) (inj h) H
    | 3, h => exact x0 (fun _ _ => rfl) (inj h) H
  | i2c => exact x0 (fun _ _ => rfl) (inj h) H
  | ldc2_w n => exact xu2 (F := .ldc2_w) (fun _ _ => rfl) (inj h) H
  | ineg => exact x0 (fun _ _ => rfl) (inj h) H
  | astore n => exact xu1 (F := .astore) (fun _ _ => rfl) (inj h) H
  | lload n => exact xu1 (F := .lload) (fun _ _ => rfl) (inj h) H
  | land => exact x0 (fun _ _ => rfl) (inj h) H
  | lstore n => exact xu1 (F := .lstore) (fun _ _ => rfl) (inj h) H
  | lshr => exact x0 (fun _ _ => rfl) (inj h) H
  | lxor => exact x0 (fun _ _ => rfl) (inj h) H
  | lmul => exact x0 (fun _ _ => rfl) (inj h) H
  | lushr => exact x0 (fun _ _ => rfl) (inj h) H
  | i2b => exact x0 (fun _ _ => rfl) (inj h) H
  | areturn => exact x0 (fun _ _ => rfl) (inj h) H
  | ladd => exact x0 (fun _ _ => rfl) (inj h) H
  | lsub => exact x0 (fun _ _ => rfl) (inj h) H
  | newarray t => exact xnt (inj h) H
  | multianewarray n d => exact xma h H
  | _ => exact nomatch h

def pre_ : List Nat → List UInt8 → Bool
  | [], _ => true
  | v :: l, a :: m => Nat.beq v a.toNat && pre_ l m
  | _ :: _, [] => false
theorem rd1_at {b : ByteArray} {p : Nat} {a : UInt8} {m : List UInt8} (h : b.data.toList.drop p = a :: m) : rd1 b p = .ok (a.toNat, p + 1) ∧ b.data.toList.drop (p + 1) = m := by
  have hl : p < b.data.toList.length := by
    rcases Nat.lt_or_ge p b.data.toList.length with h' | h'
    · exact h'
    · rw [List.drop_of_length_le h'] at h; exact nomatch h
  have hc := List.drop_eq_getElem_cons hl
  rw [h] at hc
  obtain ⟨ha, hm⟩ := List.cons.inj hc
  refine ⟨?_, hm.symm⟩
  have hs : p < b.size := hl
  have e : rd1 b p = (if h : p < b.size then Except.ok (b[p].toNat, p + 1) else Except.error (HasTruncated.truncated p)) := by
    unfold rd1 Reader.u1
    show (if h : p < b.size then (do set (p + 1); pure b[p].toNat : Decoder Nat) else throw (HasTruncated.truncated p)) b p = _
    by_cases h : p < b.size
    · rw [dif_pos h, dif_pos h]; rfl
    · rw [dif_neg h, dif_neg h]; rfl
  rw [e, dif_pos hs, ha]
  rfl
theorem pre_at {b : ByteArray} : ∀ {l : List Nat} {p : Nat}, pre_ l (b.data.toList.drop p) = true → at_ b p l
  | [], _, _ => trivial
  | v :: l, p, h => by
    match hd : b.data.toList.drop p, h with
    | [], h => exact nomatch h
    | a :: m, h =>
      obtain ⟨h1, h2⟩ := (Bool.and_eq_true _ _).mp h
      obtain ⟨r1, r2⟩ := rd1_at hd
      rw [← Nat.eq_of_beq_eq_true h1] at r1
      exact ⟨r1, pre_at (by rw [r2]; exact h2)⟩
def dwalk (b : ByteArray) : List UInt8 → Nat → List pI → Bool
  | _, _, [] => true
  | bs, p, q :: r => match enc q.2.1 with
    | some l => Nat.ble p q.1 && (Nat.beq l.length q.2.2.1 && (pre_ l (bs.drop (q.1 - p)) && dwalk b (bs.drop (q.1 - p)) q.1 r))
    | none => decide (decode b q.1 = .ok (q.2.1, q.2.2.1)) && dwalk b bs p r
theorem dwalk_ok {b : ByteArray} : ∀ {tab : List pI} {p : Nat}, dwalk b (b.data.toList.drop p) p tab = true → ∀ q ∈ tab, decode b q.1 = .ok (q.2.1, q.2.2.1)
  | [], _, _ => fun _ h => absurd h List.not_mem_nil
  | q :: r, p, h => by
    unfold dwalk at h
    match he : enc q.2.1, h with
    | none, h =>
      obtain ⟨h1, h2⟩ := (Bool.and_eq_true _ _).mp h
      exact List.forall_mem_cons.mpr ⟨of_decide_eq_true h1, dwalk_ok h2⟩
    | some l, h =>
      obtain ⟨h1, h2⟩ := (Bool.and_eq_true _ _).mp h
      have hp : p ≤ q.1 := Nat.le_of_ble_eq_true h1
      obtain ⟨h3, h4⟩ := (Bool.and_eq_true _ _).mp h2
      obtain ⟨h5, h6⟩ := (Bool.and_eq_true _ _).mp h4
      rw [List.drop_drop] at h5 h6
      rw [show p + (q.1 - p) = q.1 by omega] at h5 h6
      have hq := enc_ok he (pre_at h5)
      rw [Nat.eq_of_beq_eq_true h3] at hq
      exact List.forall_mem_cons.mpr ⟨hq, dwalk_ok h6⟩


def lkL : List (Nat × List Cond) → Nat → Option Cond
  | [], _ => none
  | q :: r, i => if i < q.1 then q.2[i]? else lkL r (i - q.1)
theorem lkL_app {n : Nat} {l b : List Cond} {r : List (Nat × List Cond)} (h : l.length = n) (hr : ∀ i : Nat, b[i]? = lkL r i) : ∀ i : Nat, (l ++ b)[i]? = lkL ((n, l) :: r) i := by
  intro i
  unfold lkL
  dsimp only
  by_cases hi : i < n
  · rw [if_pos hi, List.getElem?_append_left (by omega)]
  · rw [if_neg hi, List.getElem?_append_right (by omega), h]
    exact hr (i - n)
theorem lkL_one {n : Nat} {l : List Cond} (h : l.length = n) : ∀ i : Nat, l[i]? = lkL [(n, l)] i := by
  intro i
  unfold lkL lkL
  dsimp only
  by_cases hi : i < n
  · rw [if_pos hi]
  · rw [if_neg hi, List.getElem?_eq_none (by omega)]
def lkQ : List (Nat × List Cond) := [(92, k2_sels lw_privs), (240, tables_1_1), (240, tables_1_2), (240, tables_1_3), (240, tables_1_4), (240, tables_1_5), (240, tables_1_6), (85, tables_1_7)]
set_option maxRecDepth 100000 in
theorem len_tables_1_1 : tables_1_1.length = 240 := by decide +kernel
set_option maxRecDepth 100000 in
theorem len_tables_1_2 : tables_1_2.length = 240 := by decide +kernel
set_option maxRecDepth 100000 in
theorem len_tables_1_3 : tables_1_3.length = 240 := by decide +kernel
set_option maxRecDepth 100000 in
theorem len_tables_1_4 : tables_1_4.length = 240 := by decide +kernel
set_option maxRecDepth 100000 in
theorem len_tables_1_5 : tables_1_5.length = 240 := by decide +kernel
set_option maxRecDepth 100000 in
theorem len_tables_1_6 : tables_1_6.length = 240 := by decide +kernel
set_option maxRecDepth 100000 in
theorem len_tables_1_7 : tables_1_7.length = 85 := by decide +kernel
set_option maxRecDepth 100000 in
theorem len_sels : (k2_sels lw_privs).length = 92 := by decide +kernel
theorem lk_eq (i : Nat) : lw_tbl[i]? = lkL lkQ i := lkL_app len_sels (lkL_app len_tables_1_1 (lkL_app len_tables_1_2 (lkL_app len_tables_1_3 (lkL_app len_tables_1_4 (lkL_app len_tables_1_5 (lkL_app len_tables_1_6 (lkL_one len_tables_1_7))))))) i
def wd2 (i : Nat) (w : Cond) : Bool := decide (lkL lkQ i = some w) && goodWord w
theorem wd_wd2 : wd = wd2 := by
  funext i w
  unfold wd wd2
  rw [lk_eq]
def lnkG (W : Nat → Cond → Bool) (own : String) (init : Bool) (i : Instr) (x : pX) : Bool := match i with
  | .getfield idx => if x.1 = -1 then (if x.2.1 = 0 then W x.2.2 (.fieldLink own idx "java/lang/String" "coder" "B") else W x.2.2 (.fieldLink own idx "java/lang/String" "value" "[B")) else (match vwCl[x.1.toNat]? with
    | some r => decide (x.2.1 < r.2.2) && W x.2.2 (.fieldLink own idx (r.2.1 x.2.1).1 (r.2.1 x.2.1).2.1 (r.2.1 x.2.1).2.2.1)
    | none => false)
  | .putfield idx => match vwCl[x.1.toNat]? with
    | some r => decide (x.2.1 < r.2.2) && (W x.2.2 (.fieldLink own idx (r.2.1 x.2.1).1 (r.2.1 x.2.1).2.1 (r.2.1 x.2.1).2.2.1) && (decide ((r.2.1 x.2.1).2.2.2 = false) || (decide ((r.2.1 x.2.1).2.2.2 = true) && (init && decide ((r.2.1 x.2.1).1 = own)))))
    | none => false
  | .getstatic idx => match stL[x.2.1]? with
    | some q => W x.2.2 (.fieldLink own idx q.1 q.2.1 q.2.2.1)
    | none => false
  | .ldc idx => if x.2.1 = 0 then W x.2.2 (.constant own idx (Int32.ofInt x.1)) else decide (x.2.1 ≤ 3) && (decide (stOwn (x.2.1 - 1) = own) && decide (stIdx (x.2.1 - 1) = idx))
  | .ldc_w idx => W x.2.2 (.constant own idx (Int32.ofInt x.1))
  | .ldc2_w idx => W x.2.2 (.constantLong own idx (Int64.ofInt x.1))
  | .new idx => match vwCl[x.1.toNat]? with
    | some r => W x.2.2 (.classLink own idx r.1) && (W (clP x.1.toNat).1 (.instantiable r.1 r.2.2) && W (clP x.1.toNat).2 (.initialized r.1))
    | none => false
  | .newarray t => match p_aty t with
    | some k => W x.2.2 (.arrayClass (aTy k))
    | none => false
  | .multianewarray idx dd => decide (dd = 2) && (W x.2.2 (.classLink own idx "[[I") && W x.2.1 (.arrayClass .int))
  | _ => true
def lnkCG (W : Nat → Cond → Bool) (ms : List pM) (own : String) (i : Instr) (x : pX) : Bool := match i with
  | .invokevirtual idx => match ms[x.1.toNat]? with
    | some M => decide (M.2.2.2.2.2.1 = 0) && W x.2.2 (.methodLink own idx M.1)
    | none => false
  | .invokestatic idx => if x.1 = -2 then W x.2.2 (.methodLink own idx arraycopyName) else (match ms[x.1.toNat]? with
    | some M => decide (M.2.2.2.2.2.1 = 1) && W x.2.2 (.methodLink own idx M.1)
    | none => false)
  | .invokespecial idx => if x.1 = -1 then W x.2.2 (.methodLink own idx Lib.objectInit) else (match ms[x.1.toNat]? with
    | some M => decide (M.2.2.2.2.2.1 = 2) && (if x.2.1 = 0 then W x.2.2 (.methodLink own idx M.1) else decide (nestL[x.2.2]? = some (.methodLinkNest own idx M.1 "TurnHouse")))
    | none => false)
  | _ => true
def mOKG (W : Nat → Cond → Bool) (ms : List pM) (M : pM) : Bool := match M with
  | (y, bytes, maxL, ret, n, kind, ci, (p0, p1, p2, p3), tab) =>
    (W p0 (.code y bytes maxL ret) && (plainFor y && (decide (y.cls ≠ "java/lang/invoke/MethodHandle" ∧ y.cls ≠ "java/lang/invoke/VarHandle" ∧ (parseMethodDescriptor y.desc).map (fun d => d.parameters.length) = some n) && (decide (maxL ≤ 21) && W p3 (.initialized y.cls))))) &&
    ((if kind = 1 then W p1 (.static y) else W p1 (.instanceMethod y)) && ((if kind = 0 then W p2 (.selects y.cls y y) && (match vwCl[ci]? with
      | some r => decide (r.1 = y.cls)
      | none => decide (ci = 13) && decide (y.cls = "java/lang/String")) else true) && (if kind = 2 then decide (y.name = "<init>") && decide (ret = none) else true))) &&
    tab.all (fun q => decide (decode bytes q.1 = .ok (q.2.1, q.2.2.1)) && (p_ok maxL q.1 q.2.1 q.2.2.1 && ( lnkG W y.cls (decide (kind = 2)) q.2.1 q.2.2.2 && lnkCG W ms y.cls q.2.1 q.2.2.2)))
def mOKH (W : Nat → Cond → Bool) (ms : List pM) (M : pM) : Bool := match M with
  | (y, bytes, maxL, ret, n, kind, ci, (p0, p1, p2, p3), tab) =>
    (W p0 (.code y bytes maxL ret) && (plainFor y && (decide (y.cls ≠ "java/lang/invoke/MethodHandle" ∧ y.cls ≠ "java/lang/invoke/VarHandle" ∧ (parseMethodDescriptor y.desc).map (fun d => d.parameters.length) = some n) && (decide (maxL ≤ 21) && W p3 (.initialized y.cls))))) &&
    ((if kind = 1 then W p1 (.static y) else W p1 (.instanceMethod y)) && ((if kind = 0 then W p2 (.selects y.cls y y) && (match vwCl[ci]? with
      | some r => decide (r.1 = y.cls)
      | none => decide (ci = 13) && decide (y.cls = "java/lang/String")) else true) && (if kind = 2 then decide (y.name = "<init>") && decide (ret = none) else true))) &&
    tab.all (fun q => (p_ok maxL q.1 q.2.1 q.2.2.1 && ( lnkG W y.cls (decide (kind = 2)) q.2.1 q.2.2.2 && lnkCG W ms y.cls q.2.1 q.2.2.2)))
theorem lnkG_wd : lnkG wd = lnk := by
  funext own init i x
  cases i <;> rfl
theorem lnkCG_wd : lnkCG wd = lnkC := by
  funext ms own i x
  cases i <;> rfl
theorem mOKG_wd : mOKG wd = mOK := by
  funext ms M
  obtain ⟨y, bytes, maxL, ret, n, kind, ci, ⟨p0, p1, p2, p3⟩, tab⟩ := M
  unfold mOKG mOK
  rw [lnkG_wd, lnkCG_wd]
  rfl
def wd3 (i : Nat) (w : Cond) : Bool := match w with
  | .code _ _ _ _ => goodWord w
  | _ => wd2 i w
theorem lnkG_wd3 : lnkG wd3 = lnkG wd2 := by
  funext own init i x
  cases i <;> rfl
theorem lnkCG_wd3 : lnkCG wd3 = lnkCG wd2 := by
  funext ms own i x
  cases i <;> rfl
theorem mOK_of3 {y : MethodName} {bytes : ByteArray} {maxL : Nat} {ret : Option FieldType} {n kind ci p0 p1 p2 p3 : Nat} {tab : List pI} (hc : lkL lkQ p0 = some (.code y bytes maxL ret)) (h : mOKG wd3 msL (y, bytes, maxL, ret, n, kind, ci, (p0, p1, p2, p3), tab) = true) : mOK msL (y, bytes, maxL, ret, n, kind, ci, (p0, p1, p2, p3), tab) = true := by
  have e : wd2 p0 (.code y bytes maxL ret) = wd3 p0 (.code y bytes maxL ret) := by
    show (decide (lkL lkQ p0 = some (.code y bytes maxL ret)) && goodWord (.code y bytes maxL ret)) = goodWord (.code y bytes maxL ret)
    rw [decide_eq_true hc]
    rfl
  rw [← mOKG_wd, wd_wd2]
  unfold mOKG at h ⊢
  dsimp only at h ⊢
  rw [lnkG_wd3, lnkCG_wd3] at h
  rw [e]
  exact h
theorem mOKH_G {W : Nat → Cond → Bool} {ms : List pM} {M : pM} (H : ∀ q ∈ M.2.2.2.2.2.2.2.2, decode M.2.1 q.1 = .ok (q.2.1, q.2.2.1)) (h : mOKH W ms M = true) : mOKG W ms M = true := by
  obtain ⟨y, bytes, maxL, ret, n, kind, ci, ⟨p0, p1, p2, p3⟩, tab⟩ := M
  unfold mOKH at h
  unfold mOKG
  obtain ⟨a, b⟩ := (Bool.and_eq_true _ _).mp h
  exact (Bool.and_eq_true _ _).mpr ⟨a, List.all_eq_true.mpr fun q hq => (Bool.and_eq_true _ _).mpr ⟨decide_eq_true (H q hq), List.all_eq_true.mp b q hq⟩⟩
theorem mOK_of4 {y : MethodName} {bytes : ByteArray} {maxL : Nat} {ret : Option FieldType} {n kind ci p0 p1 p2 p3 : Nat} {tab : List pI} (hc : lkL lkQ p0 = some (.code y bytes maxL ret)) (h : (dwalk bytes bytes.data.toList 0 tab && mOKH wd3 msL (y, bytes, maxL, ret, n, kind, ci, (p0, p1, p2, p3), tab)) = true) : mOK msL (y, bytes, maxL, ret, n, kind, ci, (p0, p1, p2, p3), tab) = true := by
  obtain ⟨a, b⟩ := (Bool.and_eq_true _ _).mp h
  exact mOK_of3 hc (mOKH_G (dwalk_ok (p := 0) a) b)
theorem mOK_app {ms : List pM} {y : MethodName} {bytes : ByteArray} {maxL : Nat} {ret : Option FieldType} {n kind ci : Nat} {ps : Nat × Nat × Nat × Nat} {t1 t2 : List pI} (h1 : mOK ms (y, bytes, maxL, ret, n, kind, ci, ps, t1) = true) (h2 : mOK ms (y, bytes, maxL, ret, n, kind, ci, ps, t2) = true) : mOK ms (y, bytes, maxL, ret, n, kind, ci, ps, t1 ++ t2) = true := by
  obtain ⟨p0, p1, p2, p3⟩ := ps
  unfold mOK at h1 h2 ⊢
  obtain ⟨a1, b1⟩ := (Bool.and_eq_true _ _).mp h1
  obtain ⟨a2, b2⟩ := (Bool.and_eq_true _ _).mp h2
  exact (Bool.and_eq_true _ _).mpr ⟨a1, by rw [List.all_append, b1, b2]; rfl⟩
