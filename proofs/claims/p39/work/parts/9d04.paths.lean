/-! ONE MEMORY: rows of steps; a step of its own comes first as well. -/
/-- one step of a thread -/
def sp (P : Nat → fI) (t : Nat) (N : fI) : fI := stp P 0 N t 0 2
def pth (P : Nat → fI) : List Nat → fI → fI
  | [], N => N
  | t :: l, N => pth P l (sp P t N)
def vp (P : Nat → fI) : List Nat → fI → Prop
  | [], _ => True
  | t :: l, N => t < 2 ∧ rd0 P t N ∧ vp P l (sp P t N)
/-- thread t is at a line that asks for its own locals alone -/
abbrev lo0 (P : Nat → fI) (t : Nat) (N : fI) : Prop := N t = 1 ∧ (kd P (clp (N (4 + t))) = 0 ∨ kd P (clp (N (4 + t))) = 14 ∨ kd P (clp (N (4 + t))) = 17)
section S3
variable {P : Nat → fI} {nc nl n t u i j k o : Nat} {N M : fI} {l l' : List Nat}
theorem pth_c : pth P (t :: l) N = pth P l (sp P t N) := by simp only [pth]
theorem pth_n : pth P [] N = N := by simp only [pth]
theorem sp_w (hG : GP P nc nl n) (hS : SV P 0 nc nl 2 n N) (ht : t < 2) (hr : rd0 P t N) : SV P 0 nc nl 2 n (sp P t N) := st0_w hG hS ht hr
theorem sp_0 (hG : GP P nc nl n) (hS : SV P 0 nc nl 2 n N) (ht : t < 2) (hr : rd0 P t N) : e56 (sp P t N) (st0 P t N) := stp_0 hG hS ht hr.1
theorem sp_cg (hG : GP P nc nl n) (hS : SV P 0 nc nl 2 n N) (hM : SV P 0 nc nl 2 n M) (h : eqS N M) (ht : t < 2) (hr : rd0 P t N) : rd0 P t M ∧ eqS (sp P t N) (sp P t M) := by
  have hr' := (rdS_0 (k := 0) hG hS ht).mpr ⟨rfl, hr⟩
  exact ⟨((rdS_0 hG hM ht).mp (cg_rdS (0, fun _ => 0) hG.2.1 hG.1 hS hM (by decide) h hr')).2, cg_stp (0, fun _ => 0) hG.2.1 hG.1 hS hM (by decide) h hr' (by decide)⟩
theorem lo_rd (h : lo0 P t N) : rd0 P t N := ⟨h.1, fun z => by have := h.2; omega⟩
theorem vp_w (hG : GP P nc nl n) : ∀ (l : List Nat) (N : fI), SV P 0 nc nl 2 n N → vp P l N → SV P 0 nc nl 2 n (pth P l N) := by
  intro l
  induction l with
  | nil => intro N h _; exact h
  | cons t l ih => intro N h hv; exact ih _ (sp_w hG h hv.1 hv.2.1) hv.2.2
theorem vp_cg (hG : GP P nc nl n) : ∀ (l : List Nat) (N M : fI), SV P 0 nc nl 2 n N → SV P 0 nc nl 2 n M → eqS N M → vp P l N → vp P l M ∧ eqS (pth P l N) (pth P l M) := by
  intro l
  induction l with
  | nil => intro N M _ _ h _; exact ⟨trivial, h⟩
  | cons t l ih =>
    intro N M hN hM h hv
    obtain ⟨c1, c2⟩ := sp_cg hG hN hM h hv.1 hv.2.1
    obtain ⟨d1, d2⟩ := ih _ _ (sp_w hG hN hv.1 hv.2.1) (sp_w hG hM hv.1 c1) c2 hv.2.2
    exact ⟨⟨hv.1, c1, d1⟩, d2⟩
theorem pth_app : ∀ (l l' : List Nat) (N : fI), pth P (l ++ l') N = pth P l' (pth P l N) := by
  intro l
  induction l with
  | nil => intro l' N; rfl
  | cons t l ih => intro l' N; exact ih l' _
theorem vp_app : ∀ (l l' : List Nat) (N : fI), vp P (l ++ l') N ↔ vp P l N ∧ vp P l' (pth P l N) := by
  intro l
  induction l with
  | nil => intro l' N; exact ⟨fun h => ⟨trivial, h⟩, fun h => h.2⟩
  | cons t l ih =>
    intro l' N
    constructor
    · intro h
      obtain ⟨a, b⟩ := (ih l' _).mp h.2.2
      exact ⟨⟨h.1, h.2.1, a⟩, b⟩
    · intro h
      exact ⟨h.1.1, h.1.2.1, (ih l' _).mpr ⟨h.1.2.2, h.2⟩⟩
/-- another thread's step leaves a thread where it is -/
theorem sp_u (hG : GP P nc nl n) (hS : SV P 0 nc nl 2 n N) (ht : t < 2) (hu : u < 2) (htu : t ≠ u) (hr : rd0 P u N) : ∀ j, pv t j → sp P u N j = N j := by
  intro j hj
  rw [sp_0 hG hS hu hr j (by omega)]
  exact st0_u hG hS hr.1 hu htu ht hj
theorem lo_u (hG : GP P nc nl n) (hS : SV P 0 nc nl 2 n N) (ht : t < 2) (hu : u < 2) (htu : t ≠ u) (hr : rd0 P u N) (hl : lo0 P t N) : lo0 P t (sp P u N) := by
  have h := sp_u hG hS ht hu htu hr
  unfold lo0
  rw [h t (by omega), h (4 + t) (by omega)]
  exact hl
/-- what a thread's own step leaves -/
theorem sp_lo (hG : GP P nc nl n) (hS : SV P 0 nc nl 2 n N) (ht : t < 2) (hl : lo0 P t N) : ∀ j, j < 56 → ¬ pv t j → sp P t N j = N j := by
  intro j hj hp
  rw [sp_0 hG hS ht (lo_rd hl) j hj]
  exact st0_o hG hS hl.1 ht hp (fun z => by have := hl.2; omega) (fun z1 z2 => by have := hl.2; omega)
theorem com_r (hG : GP P nc nl n) (hS : SV P 0 nc nl 2 n N) (ht : t < 2) (hu : u < 2) (htu : t ≠ u) (hr : rd0 P u N) (hl : lo0 P t N) : rd0 P u (sp P t N) := by
  have o1 := sp_lo hG hS ht hl
  obtain ⟨hi, -, -⟩ := run_ln hG.1 hS hu hr.1
  obtain ⟨-, g2, g3, g4⟩ := gp_ln hG hi
  have eu : sp P t N u = N u := o1 u (by omega) (by omega)
  have e4 : sp P t N (4 + u) = N (4 + u) := o1 (4 + u) (by omega) (by omega)
  refine ⟨eu.trans hr.1, ?_⟩
  rw [e4]
  intro z
  have := g3 (by omega) (by omega)
  rw [o1 (40 + ob P (clp (N (4 + u)))) (by omega) (by omega)]
  exact hr.2 z
theorem com_a (hG : GP P nc nl n) (hS : SV P 0 nc nl 2 n N) (ht : t < 2) (hl : lo0 P t N) (h : ∀ a, pv t a → M a = N a) (hj : pv t j) : st0 P t N j = st0 P t M j :=
  st0_ag hG hS hl.1 ht (fun a ha => (h a ha).symm) (fun z1 z2 => by have := hl.2; omega) (fun z => by have := hl.2; omega) (fun z => by have := hl.2; omega) j (h j hj).symm
theorem com_b (hG : GP P nc nl n) (hS : SV P 0 nc nl 2 n N) (ht : t < 2) (hu : u < 2) (htu : t ≠ u) (hr : rd0 P u N) (h : ∀ a, a < 56 → ¬ pv t a → M a = N a) (hj : j < 56) (q : ¬ pv t j) : st0 P u N j = st0 P u M j := by
  obtain ⟨hi, -, -⟩ := run_ln hG.1 hS hu hr.1
  obtain ⟨-, g2, g3, g4⟩ := gp_ln hG hi
  refine st0_ag hG hS hr.1 hu (fun a ha => (h a (by omega) (by omega)).symm) (fun z1 z2 => ?_) (fun z => ?_) (fun z => ?_) j (h j hj q).symm
  · have := g2 z1 z2
    exact (h _ (by omega) (by omega)).symm
  · have := g3 (by omega) (by omega)
    exact (h _ (by omega) (by omega)).symm
  · have := g3 (by omega) (by omega)
    rw [h (40 + ob P (clp (N (4 + u)))) (by omega) (by omega), h (44 + ob P (clp (N (4 + u)))) (by omega) (by omega)]
    exact ⟨Iff.rfl, fun _ => rfl⟩
theorem com (hG : GP P nc nl n) (hS : SV P 0 nc nl 2 n N) (ht : t < 2) (hu : u < 2) (htu : t ≠ u) (hr : rd0 P u N) (hl : lo0 P t N) : rd0 P u (sp P t N) ∧ eqS (sp P u (sp P t N)) (sp P t (sp P u N)) := by
  have hS1 := sp_w hG hS ht (lo_rd hl)
  have hS2 := sp_w hG hS hu hr
  have hl2 := lo_u hG hS ht hu htu hr hl
  have o1 := sp_lo hG hS ht hl
  have p2 := sp_u hG hS ht hu htu hr
  have hr1 := com_r hG hS ht hu htu hr hl
  refine ⟨hr1, e56_S (sp_w hG hS1 hu hr1) (sp_w hG hS2 ht (lo_rd hl2)) (fun j hj => ?_)⟩
  have A := sp_0 hG hS1 hu hr1 j hj
  have B := sp_0 hG hS2 ht (lo_rd hl2) j hj
  rw [A, B]
  by_cases q : pv t j
  · rw [st0_u hG hS1 hr1.1 hu htu ht q, sp_0 hG hS ht (lo_rd hl) j hj]
    exact com_a hG hS ht hl p2 q
  · have C := st0_o hG hS2 hl2.1 ht q (fun z => by have := hl2.2; omega) (fun z1 z2 => by have := hl2.2; omega)
    rw [C, sp_0 hG hS hu hr j hj]
    exact (com_b hG hS ht hu htu hr o1 hj q).symm
/-- a thread's own step moved to the front -/
theorem mv_lo (hG : GP P nc nl n) (ht : t < 2) : ∀ (l : List Nat) (N : fI), SV P 0 nc nl 2 n N → lo0 P t N → (∀ u, u ∈ l → u ≠ t) → vp P l N → vp P (t :: l) N ∧ eqS (pth P (l ++ [t]) N) (pth P (t :: l) N) := by
  intro l
  induction l with
  | nil => intro N hS hl _ _; exact ⟨⟨ht, lo_rd hl, trivial⟩, eqS.rf⟩
  | cons u l ih =>
    intro N hS hl hu hv
    have htu : t ≠ u := fun z => hu u List.mem_cons_self z.symm
    have hS2 := sp_w hG hS hv.1 hv.2.1
    have hl2 := lo_u hG hS ht hv.1 htu hv.2.1 hl
    obtain ⟨a1, a2⟩ := ih _ hS2 hl2 (fun z hz => hu z (List.mem_cons_of_mem _ hz)) hv.2.2
    obtain ⟨c1, c2⟩ := com hG hS ht hv.1 htu hv.2.1 hl
    have hS1 := sp_w hG hS ht (lo_rd hl)
    have hS12 := sp_w hG hS1 hv.1 c1
    have hS21 := sp_w hG hS2 ht (lo_rd hl2)
    obtain ⟨d1, d2⟩ := vp_cg hG l _ _ hS21 hS12 c2.sy a1.2.2
    rw [List.cons_append, pth_c, pth_c, pth_c]
    rw [pth_c] at a2
    exact ⟨⟨ht, lo_rd hl, hv.1, c1, d1⟩, eqS.tr a2 d2⟩
end S3
