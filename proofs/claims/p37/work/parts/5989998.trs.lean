/-! treaties, counted by the class: fifteen bits -/
theorem bt_tb (x a : Nat) : bt x a = x.testBit a := by
  unfold bt
  rw [Nat.testBit_eq_decide_div_mod_eq]
theorem bt_pFwA (f : Nat → Bool) : ∀ v a, a < v → bt (pFw f v) a = f a
  | 0, a, h => absurd h (by omega)
  | v + 1, a, h => by
    have l1 := pFw_lt f v
    unfold pFw
    by_cases e : a = v
    · subst e
      cases hf : f a with
      | true => rw [if_pos rfl, bt_tb, Nat.add_comm, Nat.testBit_two_pow_add_eq, Nat.testBit_lt_two_pow l1]; rfl
      | false => rw [if_neg (by decide), Nat.add_zero, bt_tb, Nat.testBit_lt_two_pow l1]
    · have ih := bt_pFwA f v a (by omega)
      cases hf : f v with
      | true => rw [if_pos rfl, bt_tb, Nat.add_comm, Nat.testBit_two_pow_add_gt (by omega), ← bt_tb, ih]
      | false => rw [if_neg (by decide), Nat.add_zero, ih]
noncomputable def wE (f : Nat → Bool) : Int64 := (if f 0 = true then Int64.ofInt 2 else Int64.ofInt 0) ||| (if f 1 = true then Int64.ofInt 4 else Int64.ofInt 0) ||| (if f 2 = true then Int64.ofInt 8 else Int64.ofInt 0) ||| (if f 3 = true then Int64.ofInt 16 else Int64.ofInt 0) ||| (if f 4 = true then Int64.ofInt 32 else Int64.ofInt 0) ||| (if f 5 = true then Int64.ofInt 256 else Int64.ofInt 0) ||| (if f 6 = true then Int64.ofInt 512 else Int64.ofInt 0) ||| (if f 7 = true then Int64.ofInt 1024 else Int64.ofInt 0) ||| (if f 8 = true then Int64.ofInt 2048 else Int64.ofInt 0) ||| (if f 9 = true then Int64.ofInt 32768 else Int64.ofInt 0) ||| (if f 10 = true then Int64.ofInt 65536 else Int64.ofInt 0) ||| (if f 11 = true then Int64.ofInt 131072 else Int64.ofInt 0) ||| (if f 12 = true then Int64.ofInt 4194304 else Int64.ofInt 0) ||| (if f 13 = true then Int64.ofInt 8388608 else Int64.ofInt 0) ||| (if f 14 = true then Int64.ofInt 536870912 else Int64.ofInt 0)
noncomputable def cE (f : Nat → Bool) : Nat := (if f 0 = true then 1 else 0) + (if f 1 = true then 1 else 0) + (if f 2 = true then 1 else 0) + (if f 3 = true then 1 else 0) + (if f 4 = true then 1 else 0) + (if f 5 = true then 1 else 0) + (if f 6 = true then 1 else 0) + (if f 7 = true then 1 else 0) + (if f 8 = true then 1 else 0) + (if f 9 = true then 1 else 0) + (if f 10 = true then 1 else 0) + (if f 11 = true then 1 else 0) + (if f 12 = true then 1 else 0) + (if f 13 = true then 1 else 0) + (if f 14 = true then 1 else 0)
theorem wE_k0 : ∀ c, c < 512 → lbc (wE (bt (0 + c))) = Int32.ofInt ((cE (bt (0 + c)) : Nat) : Int) := by decide +kernel
theorem wE_k1 : ∀ c, c < 512 → lbc (wE (bt (512 + c))) = Int32.ofInt ((cE (bt (512 + c)) : Nat) : Int) := by decide +kernel
theorem wE_k2 : ∀ c, c < 512 → lbc (wE (bt (1024 + c))) = Int32.ofInt ((cE (bt (1024 + c)) : Nat) : Int) := by decide +kernel
theorem wE_k3 : ∀ c, c < 512 → lbc (wE (bt (1536 + c))) = Int32.ofInt ((cE (bt (1536 + c)) : Nat) : Int) := by decide +kernel
theorem wE_k4 : ∀ c, c < 512 → lbc (wE (bt (2048 + c))) = Int32.ofInt ((cE (bt (2048 + c)) : Nat) : Int) := by decide +kernel
theorem wE_k5 : ∀ c, c < 512 → lbc (wE (bt (2560 + c))) = Int32.ofInt ((cE (bt (2560 + c)) : Nat) : Int) := by decide +kernel
theorem wE_k6 : ∀ c, c < 512 → lbc (wE (bt (3072 + c))) = Int32.ofInt ((cE (bt (3072 + c)) : Nat) : Int) := by decide +kernel
theorem wE_k7 : ∀ c, c < 512 → lbc (wE (bt (3584 + c))) = Int32.ofInt ((cE (bt (3584 + c)) : Nat) : Int) := by decide +kernel
theorem wE_k8 : ∀ c, c < 512 → lbc (wE (bt (4096 + c))) = Int32.ofInt ((cE (bt (4096 + c)) : Nat) : Int) := by decide +kernel
theorem wE_k9 : ∀ c, c < 512 → lbc (wE (bt (4608 + c))) = Int32.ofInt ((cE (bt (4608 + c)) : Nat) : Int) := by decide +kernel
theorem wE_k10 : ∀ c, c < 512 → lbc (wE (bt (5120 + c))) = Int32.ofInt ((cE (bt (5120 + c)) : Nat) : Int) := by decide +kernel
theorem wE_k11 : ∀ c, c < 512 → lbc (wE (bt (5632 + c))) = Int32.ofInt ((cE (bt (5632 + c)) : Nat) : Int) := by decide +kernel
theorem wE_k12 : ∀ c, c < 512 → lbc (wE (bt (6144 + c))) = Int32.ofInt ((cE (bt (6144 + c)) : Nat) : Int) := by decide +kernel
theorem wE_k13 : ∀ c, c < 512 → lbc (wE (bt (6656 + c))) = Int32.ofInt ((cE (bt (6656 + c)) : Nat) : Int) := by decide +kernel
theorem wE_k14 : ∀ c, c < 512 → lbc (wE (bt (7168 + c))) = Int32.ofInt ((cE (bt (7168 + c)) : Nat) : Int) := by decide +kernel
theorem wE_k15 : ∀ c, c < 512 → lbc (wE (bt (7680 + c))) = Int32.ofInt ((cE (bt (7680 + c)) : Nat) : Int) := by decide +kernel
theorem wE_k16 : ∀ c, c < 512 → lbc (wE (bt (8192 + c))) = Int32.ofInt ((cE (bt (8192 + c)) : Nat) : Int) := by decide +kernel
theorem wE_k17 : ∀ c, c < 512 → lbc (wE (bt (8704 + c))) = Int32.ofInt ((cE (bt (8704 + c)) : Nat) : Int) := by decide +kernel
theorem wE_k18 : ∀ c, c < 512 → lbc (wE (bt (9216 + c))) = Int32.ofInt ((cE (bt (9216 + c)) : Nat) : Int) := by decide +kernel
theorem wE_k19 : ∀ c, c < 512 → lbc (wE (bt (9728 + c))) = Int32.ofInt ((cE (bt (9728 + c)) : Nat) : Int) := by decide +kernel
theorem wE_k20 : ∀ c, c < 512 → lbc (wE (bt (10240 + c))) = Int32.ofInt ((cE (bt (10240 + c)) : Nat) : Int) := by decide +kernel
theorem wE_k21 : ∀ c, c < 512 → lbc (wE (bt (10752 + c))) = Int32.ofInt ((cE (bt (10752 + c)) : Nat) : Int) := by decide +kernel
theorem wE_k22 : ∀ c, c < 512 → lbc (wE (bt (11264 + c))) = Int32.ofInt ((cE (bt (11264 + c)) : Nat) : Int) := by decide +kernel
theorem wE_k23 : ∀ c, c < 512 → lbc (wE (bt (11776 + c))) = Int32.ofInt ((cE (bt (11776 + c)) : Nat) : Int) := by decide +kernel
theorem wE_k24 : ∀ c, c < 512 → lbc (wE (bt (12288 + c))) = Int32.ofInt ((cE (bt (12288 + c)) : Nat) : Int) := by decide +kernel
theorem wE_k25 : ∀ c, c < 512 → lbc (wE (bt (12800 + c))) = Int32.ofInt ((cE (bt (12800 + c)) : Nat) : Int) := by decide +kernel
theorem wE_k26 : ∀ c, c < 512 → lbc (wE (bt (13312 + c))) = Int32.ofInt ((cE (bt (13312 + c)) : Nat) : Int) := by decide +kernel
theorem wE_k27 : ∀ c, c < 512 → lbc (wE (bt (13824 + c))) = Int32.ofInt ((cE (bt (13824 + c)) : Nat) : Int) := by decide +kernel
theorem wE_k28 : ∀ c, c < 512 → lbc (wE (bt (14336 + c))) = Int32.ofInt ((cE (bt (14336 + c)) : Nat) : Int) := by decide +kernel
theorem wE_k29 : ∀ c, c < 512 → lbc (wE (bt (14848 + c))) = Int32.ofInt ((cE (bt (14848 + c)) : Nat) : Int) := by decide +kernel
theorem wE_k30 : ∀ c, c < 512 → lbc (wE (bt (15360 + c))) = Int32.ofInt ((cE (bt (15360 + c)) : Nat) : Int) := by decide +kernel
theorem wE_k31 : ∀ c, c < 512 → lbc (wE (bt (15872 + c))) = Int32.ofInt ((cE (bt (15872 + c)) : Nat) : Int) := by decide +kernel
theorem wE_k32 : ∀ c, c < 512 → lbc (wE (bt (16384 + c))) = Int32.ofInt ((cE (bt (16384 + c)) : Nat) : Int) := by decide +kernel
theorem wE_k33 : ∀ c, c < 512 → lbc (wE (bt (16896 + c))) = Int32.ofInt ((cE (bt (16896 + c)) : Nat) : Int) := by decide +kernel
theorem wE_k34 : ∀ c, c < 512 → lbc (wE (bt (17408 + c))) = Int32.ofInt ((cE (bt (17408 + c)) : Nat) : Int) := by decide +kernel
theorem wE_k35 : ∀ c, c < 512 → lbc (wE (bt (17920 + c))) = Int32.ofInt ((cE (bt (17920 + c)) : Nat) : Int) := by decide +kernel
theorem wE_k36 : ∀ c, c < 512 → lbc (wE (bt (18432 + c))) = Int32.ofInt ((cE (bt (18432 + c)) : Nat) : Int) := by decide +kernel
theorem wE_k37 : ∀ c, c < 512 → lbc (wE (bt (18944 + c))) = Int32.ofInt ((cE (bt (18944 + c)) : Nat) : Int) := by decide +kernel
theorem wE_k38 : ∀ c, c < 512 → lbc (wE (bt (19456 + c))) = Int32.ofInt ((cE (bt (19456 + c)) : Nat) : Int) := by decide +kernel
theorem wE_k39 : ∀ c, c < 512 → lbc (wE (bt (19968 + c))) = Int32.ofInt ((cE (bt (19968 + c)) : Nat) : Int) := by decide +kernel
theorem wE_k40 : ∀ c, c < 512 → lbc (wE (bt (20480 + c))) = Int32.ofInt ((cE (bt (20480 + c)) : Nat) : Int) := by decide +kernel
theorem wE_k41 : ∀ c, c < 512 → lbc (wE (bt (20992 + c))) = Int32.ofInt ((cE (bt (20992 + c)) : Nat) : Int) := by decide +kernel
theorem wE_k42 : ∀ c, c < 512 → lbc (wE (bt (21504 + c))) = Int32.ofInt ((cE (bt (21504 + c)) : Nat) : Int) := by decide +kernel
theorem wE_k43 : ∀ c, c < 512 → lbc (wE (bt (22016 + c))) = Int32.ofInt ((cE (bt (22016 + c)) : Nat) : Int) := by decide +kernel
theorem wE_k44 : ∀ c, c < 512 → lbc (wE (bt (22528 + c))) = Int32.ofInt ((cE (bt (22528 + c)) : Nat) : Int) := by decide +kernel
theorem wE_k45 : ∀ c, c < 512 → lbc (wE (bt (23040 + c))) = Int32.ofInt ((cE (bt (23040 + c)) : Nat) : Int) := by decide +kernel
theorem wE_k46 : ∀ c, c < 512 → lbc (wE (bt (23552 + c))) = Int32.ofInt ((cE (bt (23552 + c)) : Nat) : Int) := by decide +kernel
theorem wE_k47 : ∀ c, c < 512 → lbc (wE (bt (24064 + c))) = Int32.ofInt ((cE (bt (24064 + c)) : Nat) : Int) := by decide +kernel
theorem wE_k48 : ∀ c, c < 512 → lbc (wE (bt (24576 + c))) = Int32.ofInt ((cE (bt (24576 + c)) : Nat) : Int) := by decide +kernel
theorem wE_k49 : ∀ c, c < 512 → lbc (wE (bt (25088 + c))) = Int32.ofInt ((cE (bt (25088 + c)) : Nat) : Int) := by decide +kernel
theorem wE_k50 : ∀ c, c < 512 → lbc (wE (bt (25600 + c))) = Int32.ofInt ((cE (bt (25600 + c)) : Nat) : Int) := by decide +kernel
theorem wE_k51 : ∀ c, c < 512 → lbc (wE (bt (26112 + c))) = Int32.ofInt ((cE (bt (26112 + c)) : Nat) : Int) := by decide +kernel
theorem wE_k52 : ∀ c, c < 512 → lbc (wE (bt (26624 + c))) = Int32.ofInt ((cE (bt (26624 + c)) : Nat) : Int) := by decide +kernel
theorem wE_k53 : ∀ c, c < 512 → lbc (wE (bt (27136 + c))) = Int32.ofInt ((cE (bt (27136 + c)) : Nat) : Int) := by decide +kernel
theorem wE_k54 : ∀ c, c < 512 → lbc (wE (bt (27648 + c))) = Int32.ofInt ((cE (bt (27648 + c)) : Nat) : Int) := by decide +kernel
theorem wE_k55 : ∀ c, c < 512 → lbc (wE (bt (28160 + c))) = Int32.ofInt ((cE (bt (28160 + c)) : Nat) : Int) := by decide +kernel
theorem wE_k56 : ∀ c, c < 512 → lbc (wE (bt (28672 + c))) = Int32.ofInt ((cE (bt (28672 + c)) : Nat) : Int) := by decide +kernel
theorem wE_k57 : ∀ c, c < 512 → lbc (wE (bt (29184 + c))) = Int32.ofInt ((cE (bt (29184 + c)) : Nat) : Int) := by decide +kernel
theorem wE_k58 : ∀ c, c < 512 → lbc (wE (bt (29696 + c))) = Int32.ofInt ((cE (bt (29696 + c)) : Nat) : Int) := by decide +kernel
theorem wE_k59 : ∀ c, c < 512 → lbc (wE (bt (30208 + c))) = Int32.ofInt ((cE (bt (30208 + c)) : Nat) : Int) := by decide +kernel
theorem wE_k60 : ∀ c, c < 512 → lbc (wE (bt (30720 + c))) = Int32.ofInt ((cE (bt (30720 + c)) : Nat) : Int) := by decide +kernel
theorem wE_k61 : ∀ c, c < 512 → lbc (wE (bt (31232 + c))) = Int32.ofInt ((cE (bt (31232 + c)) : Nat) : Int) := by decide +kernel
theorem wE_k62 : ∀ c, c < 512 → lbc (wE (bt (31744 + c))) = Int32.ofInt ((cE (bt (31744 + c)) : Nat) : Int) := by decide +kernel
theorem wE_k63 : ∀ c, c < 512 → lbc (wE (bt (32256 + c))) = Int32.ofInt ((cE (bt (32256 + c)) : Nat) : Int) := by decide +kernel
theorem wE_all {c : Nat} (hc : c < 32768) : lbc (wE (bt c)) = Int32.ofInt ((cE (bt c) : Nat) : Int) := by
  by_cases h0 : c < 512
  · have q := wE_k0 (c - 0) (by omega)
    rw [show 0 + (c - 0) = c by omega] at q
    exact q
  by_cases h1 : c < 1024
  · have q := wE_k1 (c - 512) (by omega)
    rw [show 512 + (c - 512) = c by omega] at q
    exact q
  by_cases h2 : c < 1536
  · have q := wE_k2 (c - 1024) (by omega)
    rw [show 1024 + (c - 1024) = c by omega] at q
    exact q
  by_cases h3 : c < 2048
  · have q := wE_k3 (c - 1536) (by omega)
    rw [show 1536 + (c - 1536) = c by omega] at q
    exact q
  by_cases h4 : c < 2560
  · have q := wE_k4 (c - 2048) (by omega)
    rw [show 2048 + (c - 2048) = c by omega] at q
    exact q
  by_cases h5 : c < 3072
  · have q := wE_k5 (c - 2560) (by omega)
    rw [show 2560 + (c - 2560) = c by omega] at q
    exact q
  by_cases h6 : c < 3584
  · have q := wE_k6 (c - 3072) (by omega)
    rw [show 3072 + (c - 3072) = c by omega] at q
    exact q
  by_cases h7 : c < 4096
  · have q := wE_k7 (c - 3584) (by omega)
    rw [show 3584 + (c - 3584) = c by omega] at q
    exact q
  by_cases h8 : c < 4608
  · have q := wE_k8 (c - 4096) (by omega)
    rw [show 4096 + (c - 4096) = c by omega] at q
    exact q
  by_cases h9 : c < 5120
  · have q := wE_k9 (c - 4608) (by omega)
    rw [show 4608 + (c - 4608) = c by omega] at q
    exact q
  by_cases h10 : c < 5632
  · have q := wE_k10 (c - 5120) (by omega)
    rw [show 5120 + (c - 5120) = c by omega] at q
    exact q
  by_cases h11 : c < 6144
  · have q := wE_k11 (c - 5632) (by omega)
    rw [show 5632 + (c - 5632) = c by omega] at q
    exact q
  by_cases h12 : c < 6656
  · have q := wE_k12 (c - 6144) (by omega)
    rw [show 6144 + (c - 6144) = c by omega] at q
    exact q
  by_cases h13 : c < 7168
  · have q := wE_k13 (c - 6656) (by omega)
    rw [show 6656 + (c - 6656) = c by omega] at q
    exact q
  by_cases h14 : c < 7680
  · have q := wE_k14 (c - 7168) (by omega)
    rw [show 7168 + (c - 7168) = c by omega] at q
    exact q
  by_cases h15 : c < 8192
  · have q := wE_k15 (c - 7680) (by omega)
    rw [show 7680 + (c - 7680) = c by omega] at q
    exact q
  by_cases h16 : c < 8704
  · have q := wE_k16 (c - 8192) (by omega)
    rw [show 8192 + (c - 8192) = c by omega] at q
    exact q
  by_cases h17 : c < 9216
  · have q := wE_k17 (c - 8704) (by omega)
    rw [show 8704 + (c - 8704) = c by omega] at q
    exact q
  by_cases h18 : c < 9728
  · have q := wE_k18 (c - 9216) (by omega)
    rw [show 9216 + (c - 9216) = c by omega] at q
    exact q
  by_cases h19 : c < 10240
  · have q := wE_k19 (c - 9728) (by omega)
    rw [show 9728 + (c - 9728) = c by omega] at q
    exact q
  by_cases h20 : c < 10752
  · have q := wE_k20 (c - 10240) (by omega)
    rw [show 10240 + (c - 10240) = c by omega] at q
    exact q
  by_cases h21 : c < 11264
  · have q := wE_k21 (c - 10752) (by omega)
    rw [show 10752 + (c - 10752) = c by omega] at q
    exact q
  by_cases h22 : c < 11776
  · have q := wE_k22 (c - 11264) (by omega)
    rw [show 11264 + (c - 11264) = c by omega] at q
    exact q
  by_cases h23 : c < 12288
  · have q := wE_k23 (c - 11776) (by omega)
    rw [show 11776 + (c - 11776) = c by omega] at q
    exact q
  by_cases h24 : c < 12800
  · have q := wE_k24 (c - 12288) (by omega)
    rw [show 12288 + (c - 12288) = c by omega] at q
    exact q
  by_cases h25 : c < 13312
  · have q := wE_k25 (c - 12800) (by omega)
    rw [show 12800 + (c - 12800) = c by omega] at q
    exact q
  by_cases h26 : c < 13824
  · have q := wE_k26 (c - 13312) (by omega)
    rw [show 13312 + (c - 13312) = c by omega] at q
    exact q
  by_cases h27 : c < 14336
  · have q := wE_k27 (c - 13824) (by omega)
    rw [show 13824 + (c - 13824) = c by omega] at q
    exact q
  by_cases h28 : c < 14848
  · have q := wE_k28 (c - 14336) (by omega)
    rw [show 14336 + (c - 14336) = c by omega] at q
    exact q
  by_cases h29 : c < 15360
  · have q := wE_k29 (c - 14848) (by omega)
    rw [show 14848 + (c - 14848) = c by omega] at q
    exact q
  by_cases h30 : c < 15872
  · have q := wE_k30 (c - 15360) (by omega)
    rw [show 15360 + (c - 15360) = c by omega] at q
    exact q
  by_cases h31 : c < 16384
  · have q := wE_k31 (c - 15872) (by omega)
    rw [show 15872 + (c - 15872) = c by omega] at q
    exact q
  by_cases h32 : c < 16896
  · have q := wE_k32 (c - 16384) (by omega)
    rw [show 16384 + (c - 16384) = c by omega] at q
    exact q
  by_cases h33 : c < 17408
  · have q := wE_k33 (c - 16896) (by omega)
    rw [show 16896 + (c - 16896) = c by omega] at q
    exact q
  by_cases h34 : c < 17920
  · have q := wE_k34 (c - 17408) (by omega)
    rw [show 17408 + (c - 17408) = c by omega] at q
    exact q
  by_cases h35 : c < 18432
  · have q := wE_k35 (c - 17920) (by omega)
    rw [show 17920 + (c - 17920) = c by omega] at q
    exact q
  by_cases h36 : c < 18944
  · have q := wE_k36 (c - 18432) (by omega)
    rw [show 18432 + (c - 18432) = c by omega] at q
    exact q
  by_cases h37 : c < 19456
  · have q := wE_k37 (c - 18944) (by omega)
    rw [show 18944 + (c - 18944) = c by omega] at q
    exact q
  by_cases h38 : c < 19968
  · have q := wE_k38 (c - 19456) (by omega)
    rw [show 19456 + (c - 19456) = c by omega] at q
    exact q
  by_cases h39 : c < 20480
  · have q := wE_k39 (c - 19968) (by omega)
    rw [show 19968 + (c - 19968) = c by omega] at q
    exact q
  by_cases h40 : c < 20992
  · have q := wE_k40 (c - 20480) (by omega)
    rw [show 20480 + (c - 20480) = c by omega] at q
    exact q
  by_cases h41 : c < 21504
  · have q := wE_k41 (c - 20992) (by omega)
    rw [show 20992 + (c - 20992) = c by omega] at q
    exact q
  by_cases h42 : c < 22016
  · have q := wE_k42 (c - 21504) (by omega)
    rw [show 21504 + (c - 21504) = c by omega] at q
    exact q
  by_cases h43 : c < 22528
  · have q := wE_k43 (c - 22016) (by omega)
    rw [show 22016 + (c - 22016) = c by omega] at q
    exact q
  by_cases h44 : c < 23040
  · have q := wE_k44 (c - 22528) (by omega)
    rw [show 22528 + (c - 22528) = c by omega] at q
    exact q
  by_cases h45 : c < 23552
  · have q := wE_k45 (c - 23040) (by omega)
    rw [show 23040 + (c - 23040) = c by omega] at q
    exact q
  by_cases h46 : c < 24064
  · have q := wE_k46 (c - 23552) (by omega)
    rw [show 23552 + (c - 23552) = c by omega] at q
    exact q
  by_cases h47 : c < 24576
  · have q := wE_k47 (c - 24064) (by omega)
    rw [show 24064 + (c - 24064) = c by omega] at q
    exact q
  by_cases h48 : c < 25088
  · have q := wE_k48 (c - 24576) (by omega)
    rw [show 24576 + (c - 24576) = c by omega] at q
    exact q
  by_cases h49 : c < 25600
  · have q := wE_k49 (c - 25088) (by omega)
    rw [show 25088 + (c - 25088) = c by omega] at q
    exact q
  by_cases h50 : c < 26112
  · have q := wE_k50 (c - 25600) (by omega)
    rw [show 25600 + (c - 25600) = c by omega] at q
    exact q
  by_cases h51 : c < 26624
  · have q := wE_k51 (c - 26112) (by omega)
    rw [show 26112 + (c - 26112) = c by omega] at q
    exact q
  by_cases h52 : c < 27136
  · have q := wE_k52 (c - 26624) (by omega)
    rw [show 26624 + (c - 26624) = c by omega] at q
    exact q
  by_cases h53 : c < 27648
  · have q := wE_k53 (c - 27136) (by omega)
    rw [show 27136 + (c - 27136) = c by omega] at q
    exact q
  by_cases h54 : c < 28160
  · have q := wE_k54 (c - 27648) (by omega)
    rw [show 27648 + (c - 27648) = c by omega] at q
    exact q
  by_cases h55 : c < 28672
  · have q := wE_k55 (c - 28160) (by omega)
    rw [show 28160 + (c - 28160) = c by omega] at q
    exact q
  by_cases h56 : c < 29184
  · have q := wE_k56 (c - 28672) (by omega)
    rw [show 28672 + (c - 28672) = c by omega] at q
    exact q
  by_cases h57 : c < 29696
  · have q := wE_k57 (c - 29184) (by omega)
    rw [show 29184 + (c - 29184) = c by omega] at q
    exact q
  by_cases h58 : c < 30208
  · have q := wE_k58 (c - 29696) (by omega)
    rw [show 29696 + (c - 29696) = c by omega] at q
    exact q
  by_cases h59 : c < 30720
  · have q := wE_k59 (c - 30208) (by omega)
    rw [show 30208 + (c - 30208) = c by omega] at q
    exact q
  by_cases h60 : c < 31232
  · have q := wE_k60 (c - 30720) (by omega)
    rw [show 30720 + (c - 30720) = c by omega] at q
    exact q
  by_cases h61 : c < 31744
  · have q := wE_k61 (c - 31232) (by omega)
    rw [show 31232 + (c - 31232) = c by omega] at q
    exact q
  by_cases h62 : c < 32256
  · have q := wE_k62 (c - 31744) (by omega)
    rw [show 31744 + (c - 31744) = c by omega] at q
    exact q
  by_cases h63 : c < 32768
  · have q := wE_k63 (c - 32256) (by omega)
    rw [show 32256 + (c - 32256) = c by omega] at q
    exact q
  omega
theorem wE_cg {f g : Nat → Bool} (h : ∀ j, j < 15 → f j = g j) : wE f = wE g ∧ cE f = cE g := by
  unfold wE cE
  rw [h 0 (by decide), h 1 (by decide), h 2 (by decide), h 3 (by decide), h 4 (by decide), h 5 (by decide), h 6 (by decide), h 7 (by decide), h 8 (by decide), h 9 (by decide), h 10 (by decide), h 11 (by decide), h 12 (by decide), h 13 (by decide), h 14 (by decide)]
  exact ⟨rfl, rfl⟩
theorem tb_if (c : Bool) (x : Int64) (i : Nat) : tb (if c = true then x else Int64.ofInt 0) i = (c && tb x i) := by
  cases c with
  | true => rw [if_pos rfl, Bool.true_and]
  | false => rw [if_neg (by decide), tb_z, Bool.false_and]
noncomputable def eP (j : Nat) : Nat := [1, 2, 3, 4, 5, 8, 9, 10, 11, 15, 16, 17, 22, 23, 29].getD j 0
theorem tb_p0 : ∀ i, i < 64 → tb (Int64.ofInt 2) i = decide (i = 1) := by decide +kernel
theorem tb_p1 : ∀ i, i < 64 → tb (Int64.ofInt 4) i = decide (i = 2) := by decide +kernel
theorem tb_p2 : ∀ i, i < 64 → tb (Int64.ofInt 8) i = decide (i = 3) := by decide +kernel
theorem tb_p3 : ∀ i, i < 64 → tb (Int64.ofInt 16) i = decide (i = 4) := by decide +kernel
theorem tb_p4 : ∀ i, i < 64 → tb (Int64.ofInt 32) i = decide (i = 5) := by decide +kernel
theorem tb_p5 : ∀ i, i < 64 → tb (Int64.ofInt 256) i = decide (i = 8) := by decide +kernel
theorem tb_p6 : ∀ i, i < 64 → tb (Int64.ofInt 512) i = decide (i = 9) := by decide +kernel
theorem tb_p7 : ∀ i, i < 64 → tb (Int64.ofInt 1024) i = decide (i = 10) := by decide +kernel
theorem tb_p8 : ∀ i, i < 64 → tb (Int64.ofInt 2048) i = decide (i = 11) := by decide +kernel
theorem tb_p9 : ∀ i, i < 64 → tb (Int64.ofInt 32768) i = decide (i = 15) := by decide +kernel
theorem tb_p10 : ∀ i, i < 64 → tb (Int64.ofInt 65536) i = decide (i = 16) := by decide +kernel
theorem tb_p11 : ∀ i, i < 64 → tb (Int64.ofInt 131072) i = decide (i = 17) := by decide +kernel
theorem tb_p12 : ∀ i, i < 64 → tb (Int64.ofInt 4194304) i = decide (i = 22) := by decide +kernel
theorem tb_p13 : ∀ i, i < 64 → tb (Int64.ofInt 8388608) i = decide (i = 23) := by decide +kernel
theorem tb_p14 : ∀ i, i < 64 → tb (Int64.ofInt 536870912) i = decide (i = 29) := by decide +kernel
theorem t_wE {t : Int64} {f : Nat → Int} (h : tR t f) : t = wE (fun j => tb t (eP j)) := by
  refine tb_ext (fun i hi => ?_)
  unfold wE
  rw [tb_or, tb_or, tb_or, tb_or, tb_or, tb_or, tb_or, tb_or, tb_or, tb_or, tb_or, tb_or, tb_or, tb_or, tb_if, tb_if, tb_if, tb_if, tb_if, tb_if, tb_if, tb_if, tb_if, tb_if, tb_if, tb_if, tb_if, tb_if, tb_if, tb_p0 i hi, tb_p1 i hi, tb_p2 i hi, tb_p3 i hi, tb_p4 i hi, tb_p5 i hi, tb_p6 i hi, tb_p7 i hi, tb_p8 i hi, tb_p9 i hi, tb_p10 i hi, tb_p11 i hi, tb_p12 i hi, tb_p13 i hi, tb_p14 i hi]
  by_cases h0 : i = 1
  · subst h0
    have q : ∀ c : Bool, c = c := fun _ => rfl
    show tb t 1 = _
    simp [eP]
  by_cases h1 : i = 2
  · subst h1
    have q : ∀ c : Bool, c = c := fun _ => rfl
    show tb t 2 = _
    simp [eP]
  by_cases h2 : i = 3
  · subst h2
    have q : ∀ c : Bool, c = c := fun _ => rfl
    show tb t 3 = _
    simp [eP]
  by_cases h3 : i = 4
  · subst h3
    have q : ∀ c : Bool, c = c := fun _ => rfl
    show tb t 4 = _
    simp [eP]
  by_cases h4 : i = 5
  · subst h4
    have q : ∀ c : Bool, c = c := fun _ => rfl
    show tb t 5 = _
    simp [eP]
  by_cases h5 : i = 8
  · subst h5
    have q : ∀ c : Bool, c = c := fun _ => rfl
    show tb t 8 = _
    simp [eP]
  by_cases h6 : i = 9
  · subst h6
    have q : ∀ c : Bool, c = c := fun _ => rfl
    show tb t 9 = _
    simp [eP]
  by_cases h7 : i = 10
  · subst h7
    have q : ∀ c : Bool, c = c := fun _ => rfl
    show tb t 10 = _
    simp [eP]
  by_cases h8 : i = 11
  · subst h8
    have q : ∀ c : Bool, c = c := fun _ => rfl
    show tb t 11 = _
    simp [eP]
  by_cases h9 : i = 15
  · subst h9
    have q : ∀ c : Bool, c = c := fun _ => rfl
    show tb t 15 = _
    simp [eP]
  by_cases h10 : i = 16
  · subst h10
    have q : ∀ c : Bool, c = c := fun _ => rfl
    show tb t 16 = _
    simp [eP]
  by_cases h11 : i = 17
  · subst h11
    have q : ∀ c : Bool, c = c := fun _ => rfl
    show tb t 17 = _
    simp [eP]
  by_cases h12 : i = 22
  · subst h12
    have q : ∀ c : Bool, c = c := fun _ => rfl
    show tb t 22 = _
    simp [eP]
  by_cases h13 : i = 23
  · subst h13
    have q : ∀ c : Bool, c = c := fun _ => rfl
    show tb t 23 = _
    simp [eP]
  by_cases h14 : i = 29
  · subst h14
    have q : ∀ c : Bool, c = c := fun _ => rfl
    show tb t 29 = _
    simp [eP]
  have hz : tb t i = false := by
    cases hq : tb t i with
    | false => rfl
    | true =>
      obtain ⟨a, b, h1, h2, h3⟩ := h.2 i hq
      exfalso
      omega
  rw [hz]
  simp [h0, h1, h2, h3, h4, h5, h6, h7, h8, h9, h10, h11, h12, h13, h14]
theorem yA_wE {t : Int64} {f : Nat → Int} (h : tR t f) : yA f 6 / 2 = ((cE (fun j => tb t (eP j)) : Nat) : Int) := by
  have f0_0 : f (6 * 0 + 0) = 0 := by rw [h.1 0 (by decide) 0 (by decide), if_neg (fun q => q.1 rfl)]
  have f0_1 : f (6 * 0 + 1) = if tb t 1 = true then 1 else 0 := by
    rw [h.1 0 (by decide) 1 (by decide), show pI 0 1 = 1 from rfl]
    cases tb t 1 with
    | true => rw [if_pos ⟨by decide, rfl⟩, if_pos rfl]
    | false => rw [if_neg (fun q => absurd q.2 (by decide)), if_neg (by decide)]
  have f0_2 : f (6 * 0 + 2) = if tb t 2 = true then 1 else 0 := by
    rw [h.1 0 (by decide) 2 (by decide), show pI 0 2 = 2 from rfl]
    cases tb t 2 with
    | true => rw [if_pos ⟨by decide, rfl⟩, if_pos rfl]
    | false => rw [if_neg (fun q => absurd q.2 (by decide)), if_neg (by decide)]
  have f0_3 : f (6 * 0 + 3) = if tb t 3 = true then 1 else 0 := by
    rw [h.1 0 (by decide) 3 (by decide), show pI 0 3 = 3 from rfl]
    cases tb t 3 with
    | true => rw [if_pos ⟨by decide, rfl⟩, if_pos rfl]
    | false => rw [if_neg (fun q => absurd q.2 (by decide)), if_neg (by decide)]
  have f0_4 : f (6 * 0 + 4) = if tb t 4 = true then 1 else 0 := by
    rw [h.1 0 (by decide) 4 (by decide), show pI 0 4 = 4 from rfl]
    cases tb t 4 with
    | true => rw [if_pos ⟨by decide, rfl⟩, if_pos rfl]
    | false => rw [if_neg (fun q => absurd q.2 (by decide)), if_neg (by decide)]
  have f0_5 : f (6 * 0 + 5) = if tb t 5 = true then 1 else 0 := by
    rw [h.1 0 (by decide) 5 (by decide), show pI 0 5 = 5 from rfl]
    cases tb t 5 with
    | true => rw [if_pos ⟨by decide, rfl⟩, if_pos rfl]
    | false => rw [if_neg (fun q => absurd q.2 (by decide)), if_neg (by decide)]
  have f1_0 : f (6 * 1 + 0) = if tb t 1 = true then 1 else 0 := by
    rw [h.1 1 (by decide) 0 (by decide), show pI 1 0 = 1 from rfl]
    cases tb t 1 with
    | true => rw [if_pos ⟨by decide, rfl⟩, if_pos rfl]
    | false => rw [if_neg (fun q => absurd q.2 (by decide)), if_neg (by decide)]
  have f1_1 : f (6 * 1 + 1) = 0 := by rw [h.1 1 (by decide) 1 (by decide), if_neg (fun q => q.1 rfl)]
  have f1_2 : f (6 * 1 + 2) = if tb t 8 = true then 1 else 0 := by
    rw [h.1 1 (by decide) 2 (by decide), show pI 1 2 = 8 from rfl]
    cases tb t 8 with
    | true => rw [if_pos ⟨by decide, rfl⟩, if_pos rfl]
    | false => rw [if_neg (fun q => absurd q.2 (by decide)), if_neg (by decide)]
  have f1_3 : f (6 * 1 + 3) = if tb t 9 = true then 1 else 0 := by
    rw [h.1 1 (by decide) 3 (by decide), show pI 1 3 = 9 from rfl]
    cases tb t 9 with
    | true => rw [if_pos ⟨by decide, rfl⟩, if_pos rfl]
    | false => rw [if_neg (fun q => absurd q.2 (by decide)), if_neg (by decide)]
  have f1_4 : f (6 * 1 + 4) = if tb t 10 = true then 1 else 0 := by
    rw [h.1 1 (by decide) 4 (by decide), show pI 1 4 = 10 from rfl]
    cases tb t 10 with
    | true => rw [if_pos ⟨by decide, rfl⟩, if_pos rfl]
    | false => rw [if_neg (fun q => absurd q.2 (by decide)), if_neg (by decide)]
  have f1_5 : f (6 * 1 + 5) = if tb t 11 = true then 1 else 0 := by
    rw [h.1 1 (by decide) 5 (by decide), show pI 1 5 = 11 from rfl]
    cases tb t 11 with
    | true => rw [if_pos ⟨by decide, rfl⟩, if_pos rfl]
    | false => rw [if_neg (fun q => absurd q.2 (by decide)), if_neg (by decide)]
  have f2_0 : f (6 * 2 + 0) = if tb t 2 = true then 1 else 0 := by
    rw [h.1 2 (by decide) 0 (by decide), show pI 2 0 = 2 from rfl]
    cases tb t 2 with
    | true => rw [if_pos ⟨by decide, rfl⟩, if_pos rfl]
    | false => rw [if_neg (fun q => absurd q.2 (by decide)), if_neg (by decide)]
  have f2_1 : f (6 * 2 + 1) = if tb t 8 = true then 1 else 0 := by
    rw [h.1 2 (by decide) 1 (by decide), show pI 2 1 = 8 from rfl]
    cases tb t 8 with
    | true => rw [if_pos ⟨by decide, rfl⟩, if_pos rfl]
    | false => rw [if_neg (fun q => absurd q.2 (by decide)), if_neg (by decide)]
  have f2_2 : f (6 * 2 + 2) = 0 := by rw [h.1 2 (by decide) 2 (by decide), if_neg (fun q => q.1 rfl)]
  have f2_3 : f (6 * 2 + 3) = if tb t 15 = true then 1 else 0 := by
    rw [h.1 2 (by decide) 3 (by decide), show pI 2 3 = 15 from rfl]
    cases tb t 15 with
    | true => rw [if_pos ⟨by decide, rfl⟩, if_pos rfl]
    | false => rw [if_neg (fun q => absurd q.2 (by decide)), if_neg (by decide)]
  have f2_4 : f (6 * 2 + 4) = if tb t 16 = true then 1 else 0 := by
    rw [h.1 2 (by decide) 4 (by decide), show pI 2 4 = 16 from rfl]
    cases tb t 16 with
    | true => rw [if_pos ⟨by decide, rfl⟩, if_pos rfl]
    | false => rw [if_neg (fun q => absurd q.2 (by decide)), if_neg (by decide)]
  have f2_5 : f (6 * 2 + 5) = if tb t 17 = true then 1 else 0 := by
    rw [h.1 2 (by decide) 5 (by decide), show pI 2 5 = 17 from rfl]
    cases tb t 17 with
    | true => rw [if_pos ⟨by decide, rfl⟩, if_pos rfl]
    | false => rw [if_neg (fun q => absurd q.2 (by decide)), if_neg (by decide)]
  have f3_0 : f (6 * 3 + 0) = if tb t 3 = true then 1 else 0 := by
    rw [h.1 3 (by decide) 0 (by decide), show pI 3 0 = 3 from rfl]
    cases tb t 3 with
    | true => rw [if_pos ⟨by decide, rfl⟩, if_pos rfl]
    | false => rw [if_neg (fun q => absurd q.2 (by decide)), if_neg (by decide)]
  have f3_1 : f (6 * 3 + 1) = if tb t 9 = true then 1 else 0 := by
    rw [h.1 3 (by decide) 1 (by decide), show pI 3 1 = 9 from rfl]
    cases tb t 9 with
    | true => rw [if_pos ⟨by decide, rfl⟩, if_pos rfl]
    | false => rw [if_neg (fun q => absurd q.2 (by decide)), if_neg (by decide)]
  have f3_2 : f (6 * 3 + 2) = if tb t 15 = true then 1 else 0 := by
    rw [h.1 3 (by decide) 2 (by decide), show pI 3 2 = 15 from rfl]
    cases tb t 15 with
    | true => rw [if_pos ⟨by decide, rfl⟩, if_pos rfl]
    | false => rw [if_neg (fun q => absurd q.2 (by decide)), if_neg (by decide)]
  have f3_3 : f (6 * 3 + 3) = 0 := by rw [h.1 3 (by decide) 3 (by decide), if_neg (fun q => q.1 rfl)]
  have f3_4 : f (6 * 3 + 4) = if tb t 22 = true then 1 else 0 := by
    rw [h.1 3 (by decide) 4 (by decide), show pI 3 4 = 22 from rfl]
    cases tb t 22 with
    | true => rw [if_pos ⟨by decide, rfl⟩, if_pos rfl]
    | false => rw [if_neg (fun q => absurd q.2 (by decide)), if_neg (by decide)]
  have f3_5 : f (6 * 3 + 5) = if tb t 23 = true then 1 else 0 := by
    rw [h.1 3 (by decide) 5 (by decide), show pI 3 5 = 23 from rfl]
    cases tb t 23 with
    | true => rw [if_pos ⟨by decide, rfl⟩, if_pos rfl]
    | false => rw [if_neg (fun q => absurd q.2 (by decide)), if_neg (by decide)]
  have f4_0 : f (6 * 4 + 0) = if tb t 4 = true then 1 else 0 := by
    rw [h.1 4 (by decide) 0 (by decide), show pI 4 0 = 4 from rfl]
    cases tb t 4 with
    | true => rw [if_pos ⟨by decide, rfl⟩, if_pos rfl]
    | false => rw [if_neg (fun q => absurd q.2 (by decide)), if_neg (by decide)]
  have f4_1 : f (6 * 4 + 1) = if tb t 10 = true then 1 else 0 := by
    rw [h.1 4 (by decide) 1 (by decide), show pI 4 1 = 10 from rfl]
    cases tb t 10 with
    | true => rw [if_pos ⟨by decide, rfl⟩, if_pos rfl]
    | false => rw [if_neg (fun q => absurd q.2 (by decide)), if_neg (by decide)]
  have f4_2 : f (6 * 4 + 2) = if tb t 16 = true then 1 else 0 := by
    rw [h.1 4 (by decide) 2 (by decide), show pI 4 2 = 16 from rfl]
    cases tb t 16 with
    | true => rw [if_pos ⟨by decide, rfl⟩, if_pos rfl]
    | false => rw [if_neg (fun q => absurd q.2 (by decide)), if_neg (by decide)]
  have f4_3 : f (6 * 4 + 3) = if tb t 22 = true then 1 else 0 := by
    rw [h.1 4 (by decide) 3 (by decide), show pI 4 3 = 22 from rfl]
    cases tb t 22 with
    | true => rw [if_pos ⟨by decide, rfl⟩, if_pos rfl]
    | false => rw [if_neg (fun q => absurd q.2 (by decide)), if_neg (by decide)]
  have f4_4 : f (6 * 4 + 4) = 0 := by rw [h.1 4 (by decide) 4 (by decide), if_neg (fun q => q.1 rfl)]
  have f4_5 : f (6 * 4 + 5) = if tb t 29 = true then 1 else 0 := by
    rw [h.1 4 (by decide) 5 (by decide), show pI 4 5 = 29 from rfl]
    cases tb t 29 with
    | true => rw [if_pos ⟨by decide, rfl⟩, if_pos rfl]
    | false => rw [if_neg (fun q => absurd q.2 (by decide)), if_neg (by decide)]
  have f5_0 : f (6 * 5 + 0) = if tb t 5 = true then 1 else 0 := by
    rw [h.1 5 (by decide) 0 (by decide), show pI 5 0 = 5 from rfl]
    cases tb t 5 with
    | true => rw [if_pos ⟨by decide, rfl⟩, if_pos rfl]
    | false => rw [if_neg (fun q => absurd q.2 (by decide)), if_neg (by decide)]
  have f5_1 : f (6 * 5 + 1) = if tb t 11 = true then 1 else 0 := by
    rw [h.1 5 (by decide) 1 (by decide), show pI 5 1 = 11 from rfl]
    cases tb t 11 with
    | true => rw [if_pos ⟨by decide, rfl⟩, if_pos rfl]
    | false => rw [if_neg (fun q => absurd q.2 (by decide)), if_neg (by decide)]
  have f5_2 : f (6 * 5 + 2) = if tb t 17 = true then 1 else 0 := by
    rw [h.1 5 (by decide) 2 (by decide), show pI 5 2 = 17 from rfl]
    cases tb t 17 with
    | true => rw [if_pos ⟨by decide, rfl⟩, if_pos rfl]
    | false => rw [if_neg (fun q => absurd q.2 (by decide)), if_neg (by decide)]
  have f5_3 : f (6 * 5 + 3) = if tb t 23 = true then 1 else 0 := by
    rw [h.1 5 (by decide) 3 (by decide), show pI 5 3 = 23 from rfl]
    cases tb t 23 with
    | true => rw [if_pos ⟨by decide, rfl⟩, if_pos rfl]
    | false => rw [if_neg (fun q => absurd q.2 (by decide)), if_neg (by decide)]
  have f5_4 : f (6 * 5 + 4) = if tb t 29 = true then 1 else 0 := by
    rw [h.1 5 (by decide) 4 (by decide), show pI 5 4 = 29 from rfl]
    cases tb t 29 with
    | true => rw [if_pos ⟨by decide, rfl⟩, if_pos rfl]
    | false => rw [if_neg (fun q => absurd q.2 (by decide)), if_neg (by decide)]
  have f5_5 : f (6 * 5 + 5) = 0 := by rw [h.1 5 (by decide) 5 (by decide), if_neg (fun q => q.1 rfl)]
  have y0 : yB f 0 6 = 0 + f (6 * 0 + 0) + f (6 * 0 + 1) + f (6 * 0 + 2) + f (6 * 0 + 3) + f (6 * 0 + 4) + f (6 * 0 + 5) := rfl
  have y1 : yB f 1 6 = 0 + f (6 * 1 + 0) + f (6 * 1 + 1) + f (6 * 1 + 2) + f (6 * 1 + 3) + f (6 * 1 + 4) + f (6 * 1 + 5) := rfl
  have y2 : yB f 2 6 = 0 + f (6 * 2 + 0) + f (6 * 2 + 1) + f (6 * 2 + 2) + f (6 * 2 + 3) + f (6 * 2 + 4) + f (6 * 2 + 5) := rfl
  have y3 : yB f 3 6 = 0 + f (6 * 3 + 0) + f (6 * 3 + 1) + f (6 * 3 + 2) + f (6 * 3 + 3) + f (6 * 3 + 4) + f (6 * 3 + 5) := rfl
  have y4 : yB f 4 6 = 0 + f (6 * 4 + 0) + f (6 * 4 + 1) + f (6 * 4 + 2) + f (6 * 4 + 3) + f (6 * 4 + 4) + f (6 * 4 + 5) := rfl
  have y5 : yB f 5 6 = 0 + f (6 * 5 + 0) + f (6 * 5 + 1) + f (6 * 5 + 2) + f (6 * 5 + 3) + f (6 * 5 + 4) + f (6 * 5 + 5) := rfl
  have ya : yA f 6 = 0 + yB f 0 6 + yB f 1 6 + yB f 2 6 + yB f 3 6 + yB f 4 6 + yB f 5 6 := rfl
  have hc : ((cE (fun j => tb t (eP j)) : Nat) : Int) = (if tb t 1 = true then 1 else 0) + (if tb t 2 = true then 1 else 0) + (if tb t 3 = true then 1 else 0) + (if tb t 4 = true then 1 else 0) + (if tb t 5 = true then 1 else 0) + (if tb t 8 = true then 1 else 0) + (if tb t 9 = true then 1 else 0) + (if tb t 10 = true then 1 else 0) + (if tb t 11 = true then 1 else 0) + (if tb t 15 = true then 1 else 0) + (if tb t 16 = true then 1 else 0) + (if tb t 17 = true then 1 else 0) + (if tb t 22 = true then 1 else 0) + (if tb t 23 = true then 1 else 0) + (if tb t 29 = true then 1 else 0) := by
    unfold cE
    show ((((if tb t 1 = true then 1 else 0) + (if tb t 2 = true then 1 else 0) + (if tb t 3 = true then 1 else 0) + (if tb t 4 = true then 1 else 0) + (if tb t 5 = true then 1 else 0) + (if tb t 8 = true then 1 else 0) + (if tb t 9 = true then 1 else 0) + (if tb t 10 = true then 1 else 0) + (if tb t 11 = true then 1 else 0) + (if tb t 15 = true then 1 else 0) + (if tb t 16 = true then 1 else 0) + (if tb t 17 = true then 1 else 0) + (if tb t 22 = true then 1 else 0) + (if tb t 23 = true then 1 else 0) + (if tb t 29 = true then 1 else 0) : Nat)) : Int) = _
    have z0 : (((if tb t 1 = true then 1 else 0 : Nat)) : Int) = if tb t 1 = true then 1 else 0 := by split <;> rfl
    have z1 : (((if tb t 2 = true then 1 else 0 : Nat)) : Int) = if tb t 2 = true then 1 else 0 := by split <;> rfl
    have z2 : (((if tb t 3 = true then 1 else 0 : Nat)) : Int) = if tb t 3 = true then 1 else 0 := by split <;> rfl
    have z3 : (((if tb t 4 = true then 1 else 0 : Nat)) : Int) = if tb t 4 = true then 1 else 0 := by split <;> rfl
    have z4 : (((if tb t 5 = true then 1 else 0 : Nat)) : Int) = if tb t 5 = true then 1 else 0 := by split <;> rfl
    have z5 : (((if tb t 8 = true then 1 else 0 : Nat)) : Int) = if tb t 8 = true then 1 else 0 := by split <;> rfl
    have z6 : (((if tb t 9 = true then 1 else 0 : Nat)) : Int) = if tb t 9 = true then 1 else 0 := by split <;> rfl
    have z7 : (((if tb t 10 = true then 1 else 0 : Nat)) : Int) = if tb t 10 = true then 1 else 0 := by split <;> rfl
    have z8 : (((if tb t 11 = true then 1 else 0 : Nat)) : Int) = if tb t 11 = true then 1 else 0 := by split <;> rfl
    have z9 : (((if tb t 15 = true then 1 else 0 : Nat)) : Int) = if tb t 15 = true then 1 else 0 := by split <;> rfl
    have z10 : (((if tb t 16 = true then 1 else 0 : Nat)) : Int) = if tb t 16 = true then 1 else 0 := by split <;> rfl
    have z11 : (((if tb t 17 = true then 1 else 0 : Nat)) : Int) = if tb t 17 = true then 1 else 0 := by split <;> rfl
    have z12 : (((if tb t 22 = true then 1 else 0 : Nat)) : Int) = if tb t 22 = true then 1 else 0 := by split <;> rfl
    have z13 : (((if tb t 23 = true then 1 else 0 : Nat)) : Int) = if tb t 23 = true then 1 else 0 := by split <;> rfl
    have z14 : (((if tb t 29 = true then 1 else 0 : Nat)) : Int) = if tb t 29 = true then 1 else 0 := by split <;> rfl
    omega
  rw [ya, y0, y1, y2, y3, y4, y5, hc, f0_0, f0_1, f0_2, f0_3, f0_4, f0_5, f1_0, f1_1, f1_2, f1_3, f1_4, f1_5, f2_0, f2_1, f2_2, f2_3, f2_4, f2_5, f3_0, f3_1, f3_2, f3_3, f3_4, f3_5, f4_0, f4_1, f4_2, f4_3, f4_4, f4_5, f5_0, f5_1, f5_2, f5_3, f5_4, f5_5]
  generalize (if tb t 1 = true then (1 : Int) else 0) = x0
  generalize (if tb t 2 = true then (1 : Int) else 0) = x1
  generalize (if tb t 3 = true then (1 : Int) else 0) = x2
  generalize (if tb t 4 = true then (1 : Int) else 0) = x3
  generalize (if tb t 5 = true then (1 : Int) else 0) = x4
  generalize (if tb t 8 = true then (1 : Int) else 0) = x5
  generalize (if tb t 9 = true then (1 : Int) else 0) = x6
  generalize (if tb t 10 = true then (1 : Int) else 0) = x7
  generalize (if tb t 11 = true then (1 : Int) else 0) = x8
  generalize (if tb t 15 = true then (1 : Int) else 0) = x9
  generalize (if tb t 16 = true then (1 : Int) else 0) = x10
  generalize (if tb t 17 = true then (1 : Int) else 0) = x11
  generalize (if tb t 22 = true then (1 : Int) else 0) = x12
  generalize (if tb t 23 = true then (1 : Int) else 0) = x13
  generalize (if tb t 29 = true then (1 : Int) else 0) = x14
  omega
theorem tr_cnt {t : Int64} {f : Nat → Int} (h : tR t f) : lbc t = Int32.ofInt (yA f 6 / 2) := by
  have l := pFw_lt (fun j => tb t (eP j)) 15
  have e := wE_cg (f := bt (pFw (fun j => tb t (eP j)) 15)) (g := fun j => tb t (eP j)) (fun j hj => bt_pFwA _ 15 j hj)
  have w := wE_all (c := pFw (fun j => tb t (eP j)) 15) l
  rw [e.1, e.2, ← t_wE h, ← yA_wE h] at w
  exact w
