/-! THE REFERENCE: findSamples, composeBy, findComposed -/
def Vq (a z b y : Nat) : Prop := a < z ∧ z < 6 ∧ b < y ∧ y < 6
def cd (a z b y : Nat) : Nat := ((a * 7 + z) * 7 + b) * 7 + y
def smW : List Nat := [51, 44, 81, 38, 291, 290, 37, 80, 116, 73, 326, 289, 541]
theorem smW_ok : ∀ r, r < 13 → (smW.getD r 0 / 216 < smW.getD r 0 / 36 % 6 ∧ smW.getD r 0 / 36 % 6 < 6 ∧ smW.getD r 0 / 6 % 6 < smW.getD r 0 % 6 ∧ smW.getD r 0 % 6 < 6) ∧ rN (smW.getD r 0 / 216) (smW.getD r 0 / 36 % 6) (smW.getD r 0 / 6 % 6) (smW.getD r 0 % 6) = r := by decide +kernel
theorem rN_ex (r : Nat) (hr : r < 13) : ∃ a z b y, Vq a z b y ∧ rN a z b y = r := ⟨_, _, _, _, (smW_ok r hr).1, (smW_ok r hr).2⟩
def cmW : List (List Nat) := [[1865, 0, 0, 0, 0, 0, 0, 0, 0, 0, 0, 0, 0], [1858, 0, 0, 0, 0, 0, 0, 0, 0, 0, 0, 0, 0], [1895, 0, 0, 0, 0, 0, 0, 0, 0, 0, 0, 0, 0], [1852, 0, 0, 0, 0, 0, 0, 0, 0, 0, 0, 0, 0], [2105, 1846, 3395, 1840, 11165, 0, 0, 0, 0, 0, 0, 0, 0], [2104, 1845, 3394, 1839, 11164, 0, 0, 0, 0, 0, 0, 0, 0], [1851, 0, 0, 0, 0, 0, 0, 0, 0, 0, 0, 0, 0], [1894, 0, 0, 0, 0, 0, 0, 0, 0, 0, 0, 0, 0], [1930, 0, 0, 0, 0, 0, 0, 0, 0, 0, 0, 0, 0], [1887, 0, 0, 0, 0, 0, 0, 0, 0, 0, 0, 0, 0], [2140, 1881, 3430, 1875, 11200, 0, 0, 0, 0, 0, 0, 0, 0], [2103, 1844, 3393, 1838, 11163, 0, 0, 0, 0, 0, 0, 0, 0], [2355, 2096, 3645, 2090, 11415, 11162, 1837, 3392, 4940, 3385, 12710, 11161, 20485], [1606, 0, 0, 0, 0, 0, 0, 0, 0, 0, 0, 0, 0], [1599, 0, 0, 0, 0, 0, 0, 0, 0, 0, 0, 0, 0], [1636, 0, 0, 0, 0, 0, 0, 0, 0, 0, 0, 0, 0], [0, 1593, 0, 0, 0, 0, 0, 0, 0, 0, 0, 0, 0], [0, 0, 3142, 1587, 10912, 0, 0, 0, 0, 0, 0, 0, 0], [0, 0, 3141, 1586, 10911, 0, 0, 0, 0, 0, 0, 0, 0], [0, 1592, 0, 0, 0, 0, 0, 0, 0, 0, 0, 0, 0], [1635, 0, 0, 0, 0, 0, 0, 0, 0, 0, 0, 0, 0], [1671, 0, 0, 0, 0, 0, 0, 0, 0, 0, 0, 0, 0], [0, 1628, 0, 0, 0, 0, 0, 0, 0, 0, 0, 0, 0], [0, 0, 3177, 1622, 10947, 0, 0, 0, 0, 0, 0, 0, 0], [0, 0, 0, 0, 0, 10910, 1585, 3140, 0, 0, 0, 0, 0], [0, 0, 0, 0, 0, 0, 0, 0, 4688, 3133, 12458, 10909, 20233], [2945, 0, 0, 0, 0, 0, 0, 0, 0, 0, 0, 0, 0], [2938, 0, 0, 0, 0, 0, 0, 0, 0, 0, 0, 0, 0], [2975, 2932, 4265, 0, 0, 0, 0, 0, 0, 0, 0, 0, 0], [0, 0, 2926, 0, 0, 0, 0, 0, 0, 0, 0, 0, 0], [0, 0, 4475, 2920, 12245, 0, 0, 0, 0, 0, 0, 0, 0], [0, 0, 4474, 2919, 12244, 0, 0, 0, 0, 0, 0, 0, 0], [0, 0, 2925, 0, 0, 0, 0, 0, 0, 0, 0, 0, 0], [2974, 2931, 4264, 0, 0, 0, 0, 0, 0, 0, 0, 0, 0], [3010, 2967, 4300, 0, 0, 0, 0, 4263, 5595, 0, 0, 0, 0], [0, 0, 2961, 0, 0, 0, 0, 2924, 4256, 0, 0, 0, 0], [0, 0, 4510, 2955, 12280, 12243, 2918, 4473, 5805, 4250, 13575, 0, 0], [0, 0, 0, 0, 0, 0, 0, 0, 4472, 2917, 12242, 0, 0], [0, 0, 0, 0, 0, 0, 0, 0, 6020, 4465, 13790, 12241, 21565], [1390, 0, 0, 0, 0, 0, 0, 0, 0, 0, 0, 0, 0], [1383, 0, 0, 0, 0, 0, 0, 0, 0, 0, 0, 0, 0], [1420, 1377, 2710, 0, 0, 0, 0, 0, 0, 0, 0, 0, 0], [0, 0, 0, 1371, 0, 0, 0, 0, 0, 0, 0, 0, 0], [0, 0, 0, 0, 10696, 0, 0, 0, 0, 0, 0, 0, 0], [0, 0, 0, 0, 10695, 0, 0, 0, 0, 0, 0, 0, 0], [0, 0, 0, 1370, 0, 0, 0, 0, 0, 0, 0, 0, 0], [1419, 1376, 2709, 0, 0, 0, 0, 0, 0, 0, 0, 0, 0], [1455, 1412, 2745, 0, 0, 0, 0, 2708, 4040, 0, 0, 0, 0], [0, 0, 0, 1406, 0, 0, 1369, 0, 0, 2701, 0, 0, 0], [0, 0, 0, 0, 10731, 10694, 0, 0, 0, 0, 12026, 0, 0], [0, 0, 0, 0, 0, 0, 0, 0, 0, 0, 0, 10693, 0], [0, 0, 0, 0, 0, 0, 0, 0, 0, 0, 0, 0, 20017], [10505, 0, 0, 0, 0, 0, 0, 0, 0, 0, 0, 0, 0], [10498, 0, 0, 0, 0, 0, 0, 0, 0, 0, 0, 0, 0], [10535, 10492, 11825, 10486, 19595, 0, 0, 0, 0, 0, 0, 0, 0], [0, 0, 0, 0, 10480, 0, 0, 0, 0, 0, 0, 0, 0], [0, 0, 0, 0, 19805, 0, 0, 0, 0, 0, 0, 0, 0], [0, 0, 0, 0, 19804, 0, 0, 0, 0, 0, 0, 0, 0], [0, 0, 0, 0, 10479, 0, 0, 0, 0, 0, 0, 0, 0], [10534, 10491, 11824, 10485, 19594, 0, 0, 0, 0, 0, 0, 0, 0], [10570, 10527, 11860, 10521, 19630, 19593, 10484, 11823, 13155, 11816, 20925, 19592, 28700], [0, 0, 0, 0, 10515, 10478, 0, 0, 0, 0, 11810, 10477, 19585], [0, 0, 0, 0, 19840, 19803, 0, 0, 0, 0, 21135, 19802, 28910], [0, 0, 0, 0, 0, 0, 0, 0, 0, 0, 0, 0, 19801], [0, 0, 0, 0, 0, 0, 0, 0, 0, 0, 0, 0, 29125], [10462, 0, 0, 0, 0, 0, 0, 0, 0, 0, 0, 0, 0], [0, 10455, 0, 0, 0, 0, 0, 0, 0, 0, 0, 0, 0], [0, 0, 11788, 10449, 19558, 0, 0, 0, 0, 0, 0, 0, 0], [0, 0, 0, 0, 10443, 0, 0, 0, 0, 0, 0, 0, 0], [0, 0, 0, 0, 19768, 0, 0, 0, 0, 0, 0, 0, 0], [0, 0, 0, 0, 0, 19767, 0, 0, 0, 0, 0, 0, 0], [0, 0, 0, 0, 0, 10442, 0, 0, 0, 0, 0, 0, 0], [0, 0, 0, 0, 0, 19557, 10448, 11787, 0, 0, 0, 0, 0], [0, 0, 0, 0, 0, 0, 0, 0, 13119, 11780, 20889, 19556, 28664], [0, 0, 0, 0, 0, 0, 0, 0, 0, 0, 11774, 10441, 19549], [0, 0, 0, 0, 0, 0, 0, 0, 0, 0, 21099, 19766, 28874], [0, 0, 0, 0, 0, 0, 0, 0, 0, 0, 0, 0, 19765], [0, 0, 0, 0, 0, 0, 0, 0, 0, 0, 0, 0, 29089], [1347, 0, 0, 0, 0, 0, 0, 0, 0, 0, 0, 0, 0], [0, 1340, 0, 0, 0, 0, 0, 0, 0, 0, 0, 0, 0], [0, 0, 2673, 0, 0, 0, 0, 0, 0, 0, 0, 0, 0], [0, 0, 0, 1334, 0, 0, 0, 0, 0, 0, 0, 0, 0], [0, 0, 0, 0, 10659, 0, 0, 0, 0, 0, 0, 0, 0], [0, 0, 0, 0, 0, 10658, 0, 0, 0, 0, 0, 0, 0], [0, 0, 0, 0, 0, 0, 1333, 0, 0, 0, 0, 0, 0], [0, 0, 0, 0, 0, 0, 0, 2672, 0, 0, 0, 0, 0], [0, 0, 0, 0, 0, 0, 0, 0, 4004, 0, 0, 0, 0], [0, 0, 0, 0, 0, 0, 0, 0, 0, 2665, 0, 0, 0], [0, 0, 0, 0, 0, 0, 0, 0, 0, 0, 11990, 0, 0], [0, 0, 0, 0, 0, 0, 0, 0, 0, 0, 0, 10657, 0], [0, 0, 0, 0, 0, 0, 0, 0, 0, 0, 0, 0, 19981], [2902, 0, 0, 0, 0, 0, 0, 0, 0, 0, 0, 0, 0], [0, 2895, 0, 0, 0, 0, 0, 0, 0, 0, 0, 0, 0], [0, 0, 4228, 0, 0, 0, 0, 0, 0, 0, 0, 0, 0], [0, 0, 2889, 0, 0, 0, 0, 0, 0, 0, 0, 0, 0], [0, 0, 4438, 2883, 12208, 0, 0, 0, 0, 0, 0, 0, 0], [0, 0, 0, 0, 0, 12207, 2882, 4437, 0, 0, 0, 0, 0], [0, 0, 0, 0, 0, 0, 0, 2888, 0, 0, 0, 0, 0], [0, 0, 0, 0, 0, 0, 0, 4227, 0, 0, 0, 0, 0], [0, 0, 0, 0, 0, 0, 0, 0, 5559, 0, 0, 0, 0], [0, 0, 0, 0, 0, 0, 0, 0, 4220, 0, 0, 0, 0], [0, 0, 0, 0, 0, 0, 0, 0, 5769, 4214, 13539, 0, 0], [0, 0, 0, 0, 0, 0, 0, 0, 4436, 2881, 12206, 0, 0], [0, 0, 0, 0, 0, 0, 0, 0, 5984, 4429, 13754, 12205, 21529], [4205, 4198, 5495, 0, 0, 0, 0, 5494, 6790, 0, 0, 0, 0], [0, 0, 4192, 0, 0, 0, 0, 4191, 5487, 0, 0, 0, 0], [0, 0, 5525, 0, 0, 0, 0, 5524, 6820, 0, 0, 0, 0], [0, 0, 4186, 0, 0, 0, 0, 4185, 5481, 0, 0, 0, 0], [0, 0, 5735, 4180, 13505, 13504, 4179, 5734, 7030, 5475, 14800, 0, 0], [0, 0, 0, 0, 0, 0, 0, 0, 5733, 4178, 13503, 0, 0], [0, 0, 0, 0, 0, 0, 0, 0, 4184, 0, 0, 0, 0], [0, 0, 0, 0, 0, 0, 0, 0, 5523, 0, 0, 0, 0], [0, 0, 0, 0, 0, 0, 0, 0, 6855, 0, 0, 0, 0], [0, 0, 0, 0, 0, 0, 0, 0, 5516, 0, 0, 0, 0], [0, 0, 0, 0, 0, 0, 0, 0, 7065, 5510, 14835, 0, 0], [0, 0, 0, 0, 0, 0, 0, 0, 5732, 4177, 13502, 0, 0], [0, 0, 0, 0, 0, 0, 0, 0, 7280, 5725, 15050, 13501, 22825], [2650, 2643, 3940, 0, 0, 0, 0, 3939, 5235, 0, 0, 0, 0], [0, 0, 2637, 0, 0, 0, 0, 2636, 3932, 0, 0, 0, 0], [0, 0, 3970, 0, 0, 0, 0, 3969, 5265, 0, 0, 0, 0], [0, 0, 0, 2631, 0, 0, 2630, 0, 0, 3926, 0, 0, 0], [0, 0, 0, 0, 11956, 11955, 0, 0, 0, 0, 13251, 0, 0], [0, 0, 0, 0, 0, 0, 0, 0, 0, 0, 11954, 0, 0], [0, 0, 0, 0, 0, 0, 0, 0, 0, 2629, 0, 0, 0], [0, 0, 0, 0, 0, 0, 0, 0, 3968, 0, 0, 0, 0], [0, 0, 0, 0, 0, 0, 0, 0, 5300, 0, 0, 0, 0], [0, 0, 0, 0, 0, 0, 0, 0, 0, 3961, 0, 0, 0], [0, 0, 0, 0, 0, 0, 0, 0, 0, 0, 13286, 0, 0], [0, 0, 0, 0, 0, 0, 0, 0, 0, 0, 0, 11953, 0], [0, 0, 0, 0, 0, 0, 0, 0, 0, 0, 0, 0, 21277], [11765, 11758, 13055, 0, 0, 0, 0, 13054, 14350, 0, 0, 0, 0], [0, 0, 11752, 0, 0, 0, 0, 11751, 13047, 0, 0, 0, 0], [0, 0, 13085, 11746, 20855, 20854, 11745, 13084, 14380, 13041, 22150, 0, 0], [0, 0, 0, 0, 11740, 11739, 0, 0, 0, 0, 13035, 0, 0], [0, 0, 0, 0, 21065, 21064, 0, 0, 0, 0, 22360, 0, 0], [0, 0, 0, 0, 0, 0, 0, 0, 0, 0, 21063, 0, 0], [0, 0, 0, 0, 0, 0, 0, 0, 0, 0, 11738, 0, 0], [0, 0, 0, 0, 0, 0, 0, 0, 13083, 11744, 20853, 0, 0], [0, 0, 0, 0, 0, 0, 0, 0, 14415, 13076, 22185, 20852, 29960], [0, 0, 0, 0, 0, 0, 0, 0, 0, 0, 13070, 11737, 20845], [0, 0, 0, 0, 0, 0, 0, 0, 0, 0, 22395, 21062, 30170], [0, 0, 0, 0, 0, 0, 0, 0, 0, 0, 0, 0, 21061], [0, 0, 0, 0, 0, 0, 0, 0, 0, 0, 0, 0, 30385], [10426, 10419, 11716, 0, 0, 0, 0, 11715, 13011, 0, 0, 0, 0], [0, 0, 0, 10413, 0, 0, 10412, 0, 0, 11708, 0, 0, 0], [0, 0, 0, 0, 19522, 19521, 0, 0, 0, 0, 20817, 0, 0], [0, 0, 0, 0, 10407, 10406, 0, 0, 0, 0, 11702, 0, 0], [0, 0, 0, 0, 19732, 19731, 0, 0, 0, 0, 21027, 0, 0], [0, 0, 0, 0, 0, 0, 0, 0, 0, 0, 0, 19730, 0], [0, 0, 0, 0, 0, 0, 0, 0, 0, 0, 0, 10405, 0], [0, 0, 0, 0, 0, 0, 0, 0, 0, 0, 0, 19520, 0], [0, 0, 0, 0, 0, 0, 0, 0, 0, 0, 0, 0, 28628], [0, 0, 0, 0, 0, 0, 0, 0, 0, 0, 0, 0, 19513], [0, 0, 0, 0, 0, 0, 0, 0, 0, 0, 0, 0, 28838], [0, 0, 0, 0, 0, 0, 0, 0, 0, 0, 0, 0, 19729], [0, 0, 0, 0, 0, 0, 0, 0, 0, 0, 0, 0, 29053], [19505, 19498, 20795, 19492, 28565, 28564, 19491, 20794, 22090, 20787, 29860, 28563, 37635], [0, 0, 0, 0, 19486, 19485, 0, 0, 0, 0, 20781, 19484, 28556], [0, 0, 0, 0, 28595, 28594, 0, 0, 0, 0, 29890, 28593, 37665], [0, 0, 0, 0, 19480, 19479, 0, 0, 0, 0, 20775, 19478, 28550], [0, 0, 0, 0, 28805, 28804, 0, 0, 0, 0, 30100, 28803, 37875], [0, 0, 0, 0, 0, 0, 0, 0, 0, 0, 0, 0, 28802], [0, 0, 0, 0, 0, 0, 0, 0, 0, 0, 0, 0, 19477], [0, 0, 0, 0, 0, 0, 0, 0, 0, 0, 0, 0, 28592], [0, 0, 0, 0, 0, 0, 0, 0, 0, 0, 0, 0, 37700], [0, 0, 0, 0, 0, 0, 0, 0, 0, 0, 0, 0, 28585], [0, 0, 0, 0, 0, 0, 0, 0, 0, 0, 0, 0, 37910], [0, 0, 0, 0, 0, 0, 0, 0, 0, 0, 0, 0, 28801], [0, 0, 0, 0, 0, 0, 0, 0, 0, 0, 0, 0, 38125]]
def cmWc (i k t : Nat) : Bool := let n := (cmW.getD (i * 13 + k) []).getD t 0
  Nat.blt (n / 7776) (n / 1296 % 6) && Nat.blt (n / 216 % 6) (n / 36 % 6) && Nat.blt (n / 6 % 6) (n % 6) && Nat.beq (rN (n / 7776) (n / 1296 % 6) (n / 216 % 6) (n / 36 % 6)) i && Nat.beq (rN (n / 216 % 6) (n / 36 % 6) (n / 6 % 6) (n % 6)) k && Nat.beq (rN (n / 7776) (n / 1296 % 6) (n / 6 % 6) (n % 6)) t
theorem cmW_ok : ∀ i, i < 13 → ∀ k, k < 13 → ∀ t, t < 13 → ((cmT (i * 13 + k)).testBit t = true → cmWc i k t = true) := by decide +kernel
theorem cm_ex {i k t : Nat} (hi : i < 13) (hk : k < 13) (ht : t < 13) (h : (cmT (i * 13 + k)).testBit t = true) : ∃ a z b y c x, Vq a z b y ∧ c < x ∧ x < 6 ∧ rN a z b y = i ∧ rN b y c x = k ∧ rN a z c x = t := by
  have q := cmW_ok i hi k hk t ht h
  unfold cmWc at q
  simp only [Bool.and_eq_true] at q
  obtain ⟨⟨⟨⟨⟨q1, q2⟩, q3⟩, q4⟩, q5⟩, q6⟩ := q
  exact ⟨_, _, _, _, _, _, ⟨Nat.blt_eq.mp q1, Nat.mod_lt _ (by decide), Nat.blt_eq.mp q2, Nat.mod_lt _ (by decide)⟩, Nat.blt_eq.mp q3, Nat.mod_lt _ (by decide), Nat.eq_of_beq_eq_true q4, Nat.eq_of_beq_eq_true q5, Nat.eq_of_beq_eq_true q6⟩
def SeR (g : Nat → Int32) (r : Nat) : Prop := ∃ a z b y, Vq a z b y ∧ rN a z b y = r ∧ g (4 * r) = nI a ∧ g (4 * r + 1) = nI z ∧ g (4 * r + 2) = nI b ∧ g (4 * r + 3) = nI y
def Dn (Q : Nat → Nat → Nat → Nat → Prop) (n : Nat) : Prop := ∀ a z b y, Vq a z b y → cd a z b y < n → Q a z b y
theorem Dn_b {Q : Nat → Nat → Nat → Nat → Prop} {a z b : Nat} (hb : b < 6) (h : Dn Q (cd a z b 0)) : Dn Q (cd a z b (b + 1)) := fun a' z' b' y' hv hn => h a' z' b' y' hv (by unfold cd Vq at *; omega)
theorem Dn_y {Q : Nat → Nat → Nat → Nat → Prop} {a z b : Nat} (h : Dn Q (cd a z b 6)) : Dn Q (cd a z (b + 1) 0) := fun a' z' b' y' hv hn => h a' z' b' y' hv (by unfold cd Vq at *; omega)
theorem Dn_z {Q : Nat → Nat → Nat → Nat → Prop} {a z : Nat} (h : Dn Q (cd a z 6 0)) : Dn Q (cd a (z + 1) 0 0) := fun a' z' b' y' hv hn => h a' z' b' y' hv (by unfold cd Vq at *; omega)
theorem Dn_a {Q : Nat → Nat → Nat → Nat → Prop} {a : Nat} (h : Dn Q (cd a 6 0 0)) : Dn Q (cd (a + 1) 0 0 0) := fun a' z' b' y' hv hn => h a' z' b' y' hv (by unfold cd Vq at *; omega)
theorem Dn_0 {Q : Nat → Nat → Nat → Nat → Prop} {a : Nat} (ha : a < 6) (h : Dn Q (cd a 0 0 0)) : Dn Q (cd a (a + 1) 0 0) := fun a' z' b' y' hv hn => h a' z' b' y' hv (by unfold cd Vq at *; omega)
theorem Dn_s {Q : Nat → Nat → Nat → Nat → Prop} {a z b y : Nat} (hv : Vq a z b y) (h : Dn Q (cd a z b y)) (hq : Q a z b y) : Dn Q (cd a z b (y + 1)) := fun a' z' b' y' hv' hn => by
  by_cases e : cd a' z' b' y' < cd a z b y
  · exact h a' z' b' y' hv' e
  · have e1 : a' = a ∧ z' = z ∧ b' = b ∧ y' = y := by unfold cd Vq at *; omega
    obtain ⟨rfl, rfl, rfl, rfl⟩ := e1
    exact hq
theorem Dn_all {Q : Nat → Nat → Nat → Nat → Prop} (h : Dn Q (cd 6 0 0 0)) {a z b y : Nat} (hv : Vq a z b y) : Q a z b y := h a z b y hv (by unfold cd Vq at *; omega)
theorem SeR_st {g : Nat → Int32} {a z b y : Nat} (hv : Vq a z b y) : SeR (upd (upd (upd (upd g (4 * rN a z b y) (nI a)) (4 * rN a z b y + 1) (nI z)) (4 * rN a z b y + 2) (nI b)) (4 * rN a z b y + 3) (nI y)) (rN a z b y) := by
  refine ⟨a, z, b, y, hv, rfl, ?_, ?_, ?_, ?_⟩ <;> simp [upd]
theorem SeR_k {g : Nat → Int32} {r q : Nat} {v1 v2 v3 v4 : Int32} (h : SeR g q) (hne : q ≠ r) : SeR (upd (upd (upd (upd g (4 * r) v1) (4 * r + 1) v2) (4 * r + 2) v3) (4 * r + 3) v4) q := by
  obtain ⟨a, z, b, y, hv, h1, h2, h3, h4, h5⟩ := h
  refine ⟨a, z, b, y, hv, h1, ?_, ?_, ?_, ?_⟩
  · unfold upd; rw [if_neg (by omega), if_neg (by omega), if_neg (by omega), if_neg (by omega)]; exact h2
  · unfold upd; rw [if_neg (by omega), if_neg (by omega), if_neg (by omega), if_neg (by omega)]; exact h3
  · unfold upd; rw [if_neg (by omega), if_neg (by omega), if_neg (by omega), if_neg (by omega)]; exact h4
  · unfold upd; rw [if_neg (by omega), if_neg (by omega), if_neg (by omega), if_neg (by omega)]; exact h5
theorem SeR_step {g : Nat → Int32} {a z b y : Nat} (hv : Vq a z b y) (h : Dn (fun a z b y => SeR g (rN a z b y)) (cd a z b y)) : Dn (fun a' z' b' y' => SeR (upd (upd (upd (upd g (4 * rN a z b y) (nI a)) (4 * rN a z b y + 1) (nI z)) (4 * rN a z b y + 2) (nI b)) (4 * rN a z b y + 3) (nI y)) (rN a' z' b' y')) (cd a z b (y + 1)) := by
  refine Dn_s hv (fun a' z' b' y' hv' hn => ?_) (SeR_st hv)
  by_cases e : rN a' z' b' y' = rN a z b y
  · show SeR _ (rN a' z' b' y')
    rw [e]; exact SeR_st hv
  · exact SeR_k (h a' z' b' y' hv' hn) e
def q_X7_findSamples : x_K := (1, fun as S M => S = SH ∧ as = [.inr (.inl 53)], fun as S M rv_ S' M' => as = [.inr (.inl 53)] → S' = S ∧ (∃ gI, M' = x_row M 55 gI) ∧ T55 M' ∧ rv_ = none, 0, 0)
theorem r_X7_findSamples : ∀ as S M, q_X7_findSamples.2.1 as S M → ∃ (k : Nat) (as' : List x_V) (fs : List (Option Nat)), as = .inr (.inl k) :: as' ∧ S[k]? = some (.inl (5, fs)) := by
  rintro as S M ⟨rfl, rfl⟩
  exact ⟨53, _, _, rfl, rfl⟩
def b_X7_findSamples : x_B := [(0, 1, [(.iconst 0, 1), (.istore_n 1, 1)]),
  (2, 2, [(.iload_n 1, 1), (.bipush 6, 2), (.if_icmp .ge 114, 3), (.iload_n 1, 1), (.iconst 1, 1), (.iadd, 1), (.istore_n 2, 1)]),
  (12, 3, [(.iload_n 2, 1), (.bipush 6, 2), (.if_icmp .ge 98, 3), (.iconst 0, 1), (.istore_n 3, 1)]),
  (20, 4, [(.iload_n 3, 1), (.bipush 6, 2), (.if_icmp .ge 84, 3), (.iload_n 3, 1), (.iconst 1, 1), (.iadd, 1), (.istore 4, 2)]),
  (31, 5, [(.iload 4, 2), (.bipush 6, 2), (.if_icmp .ge 66, 3), (.iload_n 1, 1), (.iload_n 2, 1), (.iload_n 3, 1), (.iload 4, 2), (.invokestatic 78, 3), (.istore 5, 2), (.aload_n 0, 1), (.getfield 13, 3), (.iconst 4, 1), (.iload 5, 2), (.imul, 1), (.iload_n 1, 1), (.iastore, 1), (.aload_n 0, 1), (.getfield 13, 3), (.iconst 4, 1), (.iload 5, 2), (.imul, 1), (.iconst 1, 1), (.iadd, 1), (.iload_n 2, 1), (.iastore, 1), (.aload_n 0, 1), (.getfield 13, 3), (.iconst 4, 1), (.iload 5, 2), (.imul, 1), (.iconst 2, 1), (.iadd, 1), (.iload_n 3, 1), (.iastore, 1), (.aload_n 0, 1), (.getfield 13, 3), (.iconst 4, 1), (.iload 5, 2), (.imul, 1), (.iconst 3, 1), (.iadd, 1), (.iload 4, 2), (.iastore, 1), (.iinc 4 1, 3), (.goto (-67), 3)]),
  (101, 5, [(.iinc 3 1, 3), (.goto (-84), 3)]),
  (107, 4, [(.iinc 2 1, 3), (.goto (-98), 3)]),
  (113, 3, [(.iinc 1 1, 3), (.goto (-114), 3)]),
  (119, 2, [(.return_, 1)])]
theorem b_X7_findSamples_ok : x_okB cX7_findSamples 6 b_X7_findSamples = true := by decide +kernel
def X_X7_findSamples : x_X := ([(13, 5, 1)], [], [], [], [(234, q_X7_relation)], (0, 0), x_kn, x_kf, 5, false)
theorem X_X7_findSamples_ok : x_okT RX7 X_X7_findSamples = true := by decide +kernel
theorem k_X7_findSamples (l : Launch) : ∀ z ∈ X_X7_findSamples.2.2.2.2.1, x_Cal l (x_rm 3 0 0) cX7_findSamples RX7 6 z.1 z.2 := List.forall_mem_cons.mpr ⟨x_cal_S (idx := 78) (c_X7_relation l) ⟨by decide, by decide⟩ (by decide +kernel) (by decide +kernel) (by decide +kernel) (by decide +kernel) (by decide +kernel), fun _ h => absurd h List.not_mem_nil⟩
set_option maxHeartbeats 4000000 in
set_option maxRecDepth 100000 in
theorem c_X7_findSamples (l : Launch) : x_CT l yX7_findSamples cX7_findSamples 6 none 3 q_X7_findSamples := by
  refine x_meth (X := X_X7_findSamples) (bl := b_X7_findSamples) (cut := [2, 12, 20, 31]) (own := RX7) 30 (by decide) rfl X_X7_findSamples_ok b_X7_findSamples_ok rfl (Nat.le_of_ble_eq_true rfl) (k_X7_findSamples l) ?_
  rintro as S M - ⟨rfl, rfl⟩
  refine ⟨fun μ pc ls st S' M' cs sl => (∃ (a : Nat) (gI : Nat → Int32), (a ≤ 6) ∧ M' = x_row M 55 gI ∧ Dn (fun a z b y => SeR gI (rN a z b y)) (cd a 0 0 0) ∧ pc = 2 ∧ st = [] ∧ S' = SH ∧ cs = 0 ∧ sl = 0 ∧ ls = [.inr (.inl 53), .inl (nI a)] ∧ μ = 5 * (3000 - cd a 0 0 0) + 4) ∨ (∃ (a z : Nat) (gI : Nat → Int32), (a < 6 ∧ a < z ∧ z ≤ 6) ∧ M' = x_row M 55 gI ∧ Dn (fun a z b y => SeR gI (rN a z b y)) (cd a z 0 0) ∧ pc = 12 ∧ st = [] ∧ S' = SH ∧ cs = 0 ∧ sl = 0 ∧ ls = [.inr (.inl 53), .inl (nI a), .inl (nI z)] ∧ μ = 5 * (3000 - cd a z 0 0) + 3) ∨ (∃ (a z b : Nat) (gI : Nat → Int32), (a < z ∧ z < 6 ∧ b ≤ 6) ∧ M' = x_row M 55 gI ∧ Dn (fun a z b y => SeR gI (rN a z b y)) (cd a z b 0) ∧ pc = 20 ∧ st = [] ∧ S' = SH ∧ cs = 0 ∧ sl = 0 ∧ ls = [.inr (.inl 53), .inl (nI a), .inl (nI z), .inl (nI b)] ∧ μ = 5 * (3000 - cd a z b 0) + 2) ∨ (∃ (a z b y : Nat) (gI : Nat → Int32), (a < z ∧ z < 6 ∧ b < y ∧ y ≤ 6) ∧ M' = x_row M 55 gI ∧ Dn (fun a z b y => SeR gI (rN a z b y)) (cd a z b y) ∧ pc = 31 ∧ st = [] ∧ S' = SH ∧ cs = 0 ∧ sl = 0 ∧ ls = [.inr (.inl 53), .inl (nI a), .inl (nI z), .inl (nI b), .inl (nI y)] ∧ μ = 5 * (3000 - cd a z b y) + 1), ?_, ?_⟩
  · skip
    refine xt_blk rfl rfl (by dsimp only [List.take]) ?_
    refine xt_ic ?_
    refine xt_isn1 rfl (by dsimp only [x_sto]) ?_
    refine xt_nil (t := 2) rfl ?_
    refine xt_cut rfl rfl (by dsimp only [List.take]) ?_
    exact ⟨_, Or.inl ⟨0, M 55, by omega, by rw [x_row_id], fun a z b y hv hn => by unfold cd at hn; omega, rfl, rfl, rfl, rfl, rfl, rfl, rfl⟩⟩
  · rintro μ pc ls st S2 M2 cs sl (⟨a, gI, ha, rfl, hD, rfl, rfl, rfl, rfl, rfl, rfl, rfl⟩ | ⟨a, z, gI, ⟨ha, haz, hz⟩, rfl, hD, rfl, rfl, rfl, rfl, rfl, rfl, rfl⟩ | ⟨a, z, b, gI, ⟨haz, hz, hb⟩, rfl, hD, rfl, rfl, rfl, rfl, rfl, rfl, rfl⟩ | ⟨a, z, b, y, gI, ⟨haz, hz, hby, hy⟩, rfl, hD, rfl, rfl, rfl, rfl, rfl, rfl, rfl⟩)
    · refine ⟨_, rfl, ?_⟩
      refine xt_iln1 rfl ?_
      refine xt_bi ?_
      refine xt_cge (t := 119) rfl (fun hc_5 => ?_) (fun hc_5 => ?_)
      · skip
        refine xt_blk rfl rfl (by dsimp only [List.take]) ?_
        refine xt_rv rfl (Nat.le_refl _) ?_
        have h6 : a = 6 := by rw [nI_leI (by omega) (by omega)] at hc_5; omega
        subst h6
        intro e2
        refine ⟨rfl, ⟨gI, rfl⟩, fun r hr => ?_, rfl⟩
        obtain ⟨a, z, b, y, hv, e⟩ := rN_ex r hr
        have q : SeR gI (rN a z b y) := Dn_all hD hv
        rw [e] at q
        obtain ⟨a, z, b, y, hv, h1, h2, h3, h4, h5⟩ := q
        obtain ⟨v1, v2, v3, v4⟩ := hv
        exact ⟨a, z, b, y, by omega, v2, by omega, v4, v1, v3, h1, h2, h3, h4, h5⟩
      · skip
        refine xt_iln1 rfl ?_
        refine xt_ic ?_
        refine xt_add ?_
        refine xt_isn2 rfl (by dsimp only [x_sto]) ?_
        refine xt_nil (t := 12) rfl ?_
        refine xt_cut rfl rfl (by dsimp only [List.take]) ?_
        have h6 : a < 6 := by rw [nI_leI (by omega) (by omega)] at hc_5; omega
        exact ⟨5 * (3000 - cd a (a + 1) 0 0) + 3, by unfold cd; omega, Or.inr (Or.inl ⟨a, a + 1, gI, ⟨h6, by omega, by omega⟩, rfl, Dn_0 h6 hD, rfl, rfl, rfl, rfl, rfl, by rw [nI_add], rfl⟩)⟩
    · refine ⟨_, rfl, ?_⟩
      refine xt_iln2 rfl ?_
      refine xt_bi ?_
      refine xt_cge (t := 113) rfl (fun hc_15 => ?_) (fun hc_15 => ?_)
      · skip
        refine xt_blk rfl rfl (by dsimp only [List.take]) ?_
        refine xt_inc rfl (by dsimp only [x_sto]) ?_
        refine xt_goto (t := 2) rfl ?_
        refine xt_cut rfl rfl (by dsimp only [List.take]) ?_
        have h6 : z = 6 := by rw [nI_leI (by omega) (by omega)] at hc_15; omega
        subst h6
        exact ⟨5 * (3000 - cd (a + 1) 0 0 0) + 4, by unfold cd; omega, Or.inl ⟨a + 1, gI, by omega, rfl, Dn_a hD, rfl, rfl, rfl, rfl, rfl, by rw [nI_add], rfl⟩⟩
      · skip
        refine xt_ic ?_
        refine xt_isn3 rfl (by dsimp only [x_sto]) ?_
        refine xt_nil (t := 20) rfl ?_
        refine xt_cut rfl rfl (by dsimp only [List.take]) ?_
        have h6 : z < 6 := by rw [nI_leI (by omega) (by omega)] at hc_15; omega
        exact ⟨5 * (3000 - cd a z 0 0) + 2, by unfold cd; omega, Or.inr (Or.inr (Or.inl ⟨a, z, 0, gI, ⟨haz, h6, by omega⟩, rfl, hD, rfl, rfl, rfl, rfl, rfl, rfl, rfl⟩))⟩
    · refine ⟨_, rfl, ?_⟩
      refine xt_iln3 rfl ?_
      refine xt_bi ?_
      refine xt_cge (t := 107) rfl (fun hc_23 => ?_) (fun hc_23 => ?_)
      · skip
        refine xt_blk rfl rfl (by dsimp only [List.take]) ?_
        refine xt_inc rfl (by dsimp only [x_sto]) ?_
        refine xt_goto (t := 12) rfl ?_
        refine xt_cut rfl rfl (by dsimp only [List.take]) ?_
        have h6 : b = 6 := by rw [nI_leI (by omega) (by omega)] at hc_23; omega
        subst h6
        exact ⟨5 * (3000 - cd a (z + 1) 0 0) + 3, by unfold cd; omega, Or.inr (Or.inl ⟨a, z + 1, gI, ⟨by omega, by omega, by omega⟩, rfl, Dn_z hD, rfl, rfl, rfl, rfl, rfl, by rw [nI_add], rfl⟩)⟩
      · skip
        refine xt_iln3 rfl ?_
        refine xt_ic ?_
        refine xt_add ?_
        refine xt_ist rfl (by dsimp only [x_sto]) ?_
        refine xt_nil (t := 31) rfl ?_
        refine xt_cut rfl rfl (by dsimp only [List.take]) ?_
        have h6 : b < 6 := by rw [nI_leI (by omega) (by omega)] at hc_23; omega
        exact ⟨5 * (3000 - cd a z b (b + 1)) + 1, by unfold cd; omega, Or.inr (Or.inr (Or.inr ⟨a, z, b, b + 1, gI, ⟨haz, hz, by omega, by omega⟩, rfl, Dn_b h6 hD, rfl, rfl, rfl, rfl, rfl, by rw [nI_add], rfl⟩))⟩
    · refine ⟨_, rfl, ?_⟩
      refine xt_ild rfl ?_
      refine xt_bi ?_
      refine xt_cge (t := 101) rfl (fun hc_35 => ?_) (fun hc_35 => ?_)
      · skip
        refine xt_blk rfl rfl (by dsimp only [List.take]) ?_
        refine xt_inc rfl (by dsimp only [x_sto]) ?_
        refine xt_goto (t := 20) rfl ?_
        refine xt_cut rfl rfl (by dsimp only [List.take]) ?_
        have h6 : y = 6 := by rw [nI_leI (by omega) (by omega)] at hc_35; omega
        subst h6
        exact ⟨5 * (3000 - cd a z (b + 1) 0) + 2, by unfold cd; omega, Or.inr (Or.inr (Or.inl ⟨a, z, b + 1, gI, ⟨haz, hz, by omega⟩, rfl, Dn_y hD, rfl, rfl, rfl, rfl, rfl, by rw [nI_add], rfl⟩))⟩
      · skip
        have hy6 : y < 6 := by rw [nI_leI (by omega) (by omega)] at hc_35; omega
        have hVq : Vq a z b y := ⟨haz, hz, hby, hy6⟩
        refine xt_iln1 rfl ?_
        refine xt_iln2 rfl ?_
        refine xt_iln3 rfl ?_
        refine xt_ild rfl ?_
        refine xt_v4 (key := 234) (q := q_X7_relation) rfl rfl rfl rfl rfl ⟨Nat.le_of_ble_eq_true rfl, Nat.le_of_ble_eq_true rfl⟩ ⟨_, _, _, _, nI_lt haz (by omega), nI_lt hby (by omega), rfl⟩ (fun rv_ S1 M_43 hq_43 => ?_)
        obtain ⟨eS_, eM_, rfl⟩ := hq_43 _ _ _ _ (nI_lt haz (by omega)) (nI_lt hby (by omega)) rfl
        replace eS_ := eS_.symm
        replace eM_ := eM_.symm
        subst eS_ eM_
        rw [bw_nI (by omega) (by omega) (by omega) (by omega)]
        have hr13 := rN_lt a z b y
        try dsimp only [Option.toList, List.cons_append, List.nil_append]
        refine xt_ist rfl (by dsimp only [x_sto]) ?_
        refine xt_aln0 rfl (by first | decide | omega | assumption) ?_
        refine xt_gfr (q := (5, 1)) rfl (by first | rfl | assumption) rfl ?_
        refine xt_ic ?_
        refine xt_ild rfl ?_
        refine xt_mul ?_
        refine xt_iln1 rfl ?_
        refine xt_ias (by first | rfl | assumption) (show vp_in _ 52 from by rw [pk_mul]; exact vp_in_nI (by omega) (by decide)) ?_
        refine xt_aln0 rfl (by first | decide | omega | assumption) ?_
        refine xt_gfr (q := (5, 1)) rfl (by first | rfl | assumption) rfl ?_
        refine xt_ic ?_
        refine xt_ild rfl ?_
        refine xt_mul ?_
        refine xt_ic ?_
        refine xt_add ?_
        refine xt_iln2 rfl ?_
        refine xt_ias (by first | rfl | assumption) (show vp_in _ 52 from by rw [pk_mul, nI_add]; exact vp_in_nI (by omega) (by decide)) ?_
        refine xt_aln0 rfl (by first | decide | omega | assumption) ?_
        refine xt_gfr (q := (5, 1)) rfl (by first | rfl | assumption) rfl ?_
        refine xt_ic ?_
        refine xt_ild rfl ?_
        refine xt_mul ?_
        refine xt_ic ?_
        refine xt_add ?_
        refine xt_iln3 rfl ?_
        refine xt_ias (by first | rfl | assumption) (show vp_in _ 52 from by rw [pk_mul, nI_add]; exact vp_in_nI (by omega) (by decide)) ?_
        refine xt_aln0 rfl (by first | decide | omega | assumption) ?_
        refine xt_gfr (q := (5, 1)) rfl (by first | rfl | assumption) rfl ?_
        refine xt_ic ?_
        refine xt_ild rfl ?_
        refine xt_mul ?_
        refine xt_ic ?_
        refine xt_add ?_
        refine xt_ild rfl ?_
        refine xt_ias (by first | rfl | assumption) (show vp_in _ 52 from by rw [pk_mul, nI_add]; exact vp_in_nI (by omega) (by decide)) ?_
        refine xt_inc rfl (by dsimp only [x_sto]) ?_
        refine xt_goto (t := 31) rfl ?_
        refine xt_cut rfl rfl (by dsimp only [List.take]) ?_
        have n0 : (nI 4 * nI (rN a z b y)).toNatClampNeg = 4 * rN a z b y := by rw [pk_mul, nI_clamp (by omega)]
        have ni : ∀ i, i < 4 → (nI 4 * nI (rN a z b y) + nI i).toNatClampNeg = 4 * rN a z b y + i := fun i hi => by rw [pk_mul, nI_add, nI_clamp (by omega)]
        exact ⟨5 * (3000 - cd a z b (y + 1)) + 1, by unfold cd; omega, Or.inr (Or.inr (Or.inr ⟨a, z, b, y + 1, _, ⟨haz, hz, by omega, by omega⟩, by simp only [x_row_self, x_row_row, n0, ni 1 (by decide), ni 2 (by decide), ni 3 (by decide)], SeR_step hVq hD, rfl, rfl, rfl, rfl, rfl, by rw [nI_add], rfl⟩))⟩
def CmS (g : Nat → Int32) : Prop := ∀ j, j < 169 → ∃ v, g j = nI v ∧ v < 8192 ∧ sb v (cmT j)
def Bs (g : Nat → Int32) (j t : Nat) : Prop := ∃ v, g j = nI v ∧ v < 8192 ∧ v.testBit t = true
def Gr (g g' : Nat → Int32) : Prop := ∀ j t, j < 169 → Bs g j t → Bs g' j t
theorem Gr_rf (g : Nat → Int32) : Gr g g := fun _ _ _ h => h
theorem Gr_tr {g g' g2 : Nat → Int32} (h : Gr g g') (h2 : Gr g' g2) : Gr g g2 := fun j t hj q => h2 j t hj (h j t hj q)
theorem cb_step {g : Nat → Int32} (h : CmS g) {a z b y c x : Nat} (hv : Vq a z b y) (hc : c < x) (hx : x < 6) {v : Nat} (hg : g (13 * rN a z b y + rN b y c x) = nI v) (hl : v < 8192) : CmS (upd g (13 * rN a z b y + rN b y c x) (nI (v ||| 2 ^ rN a z c x))) ∧ Gr g (upd g (13 * rN a z b y + rN b y c x) (nI (v ||| 2 ^ rN a z c x))) ∧ Bs (upd g (13 * rN a z b y + rN b y c x) (nI (v ||| 2 ^ rN a z c x))) (13 * rN a z b y + rN b y c x) (rN a z c x) := by
  obtain ⟨v1, v2, v3, v4⟩ := hv
  have t13 := rN_lt a z c x
  have r13 := rN_lt a z b y
  have s13 := rN_lt b y c x
  have hp : 2 ^ rN a z c x < 2 ^ 13 := Nat.pow_lt_pow_right (by decide) t13
  have hlt : v ||| 2 ^ rN a z c x < 8192 := Nat.or_lt_two_pow (n := 13) hl hp
  refine ⟨fun j hj => ?_, fun j t hj q => ?_, ?_⟩
  · by_cases e : j = 13 * rN a z b y + rN b y c x
    · subst e
      refine ⟨_, by unfold upd; rw [if_pos rfl], hlt, sb_tb.mpr (fun i hi => ?_)⟩
      rw [Nat.testBit_or, Nat.testBit_two_pow, Bool.or_eq_true, decide_eq_true_iff] at hi
      rcases hi with hi | hi
      · obtain ⟨u, hu1, hu2, hu3⟩ := h _ hj
        rw [hg, nI_eq (by omega) (by omega)] at hu1
        subst hu1
        exact sb_tb.mp hu3 i hi
      · subst hi
        have := rN_comp v1 v3 hc
        rw [Nat.mul_comm] at this
        exact this
    · obtain ⟨u, hu⟩ := h j hj
      exact ⟨u, by unfold upd; rw [if_neg e]; exact hu.1, hu.2⟩
  · obtain ⟨u, hu1, hu2, hu3⟩ := q
    by_cases e : j = 13 * rN a z b y + rN b y c x
    · subst e
      rw [hg, nI_eq (by omega) (by omega)] at hu1
      subst hu1
      exact ⟨_, by unfold upd; rw [if_pos rfl], hlt, by rw [Nat.testBit_or, hu3]; rfl⟩
    · exact ⟨u, by unfold upd; rw [if_neg e]; exact hu1, hu2, hu3⟩
  · exact ⟨_, by unfold upd; rw [if_pos rfl], hlt, by rw [Nat.testBit_or, Nat.testBit_two_pow_self]; simp⟩
def cD (g : Nat → Int32) (a z b y n : Nat) : Prop := ∀ c x, c < x → x < 6 → c * 7 + x < n → Bs g (13 * rN a z b y + rN b y c x) (rN a z c x)
def q_X7_composeBy : x_K := (5, fun as S M => ∃ (a z b y : Nat), Vq a z b y ∧ CmS (M 54) ∧ S = SH ∧ as = [.inr (.inl 53), .inl (nI a), .inl (nI z), .inl (nI b), .inl (nI y)],
  fun as S M rv_ S' M' => ∀ (a z b y : Nat), Vq a z b y → as = [.inr (.inl 53), .inl (nI a), .inl (nI z), .inl (nI b), .inl (nI y)] → S' = S ∧ (∃ gI, M' = x_row M 54 gI ∧ CmS gI ∧ Gr (M 54) gI ∧ cD gI a z b y 42) ∧ rv_ = none, 0, 0)
theorem r_X7_composeBy : ∀ as S M, q_X7_composeBy.2.1 as S M → ∃ (k : Nat) (as' : List x_V) (fs : List (Option Nat)), as = .inr (.inl k) :: as' ∧ S[k]? = some (.inl (5, fs)) := by
  rintro as S M ⟨a, z, b, y, -, -, rfl, rfl⟩
  exact ⟨53, _, _, rfl, rfl⟩
def b_X7_composeBy : x_B := [(0, 5, [(.iload_n 1, 1), (.iload_n 2, 1), (.iload_n 3, 1), (.iload 4, 2), (.invokestatic 78, 3), (.istore 5, 2), (.iconst 0, 1), (.istore 6, 2)]),
  (13, 7, [(.iload 6, 2), (.bipush 6, 2), (.if_icmp .ge 63, 3), (.iload 6, 2), (.iconst 1, 1), (.iadd, 1), (.istore 7, 2)]),
  (26, 8, [(.iload 7, 2), (.bipush 6, 2), (.if_icmp .ge 44, 3), (.aload_n 0, 1), (.getfield 7, 3), (.bipush 13, 2), (.iload 5, 2), (.imul, 1), (.iload_n 3, 1), (.iload 4, 2), (.iload 6, 2), (.iload 7, 2), (.invokestatic 78, 3), (.iadd, 1), (.dup2, 1), (.iaload, 1), (.iconst 1, 1), (.iload_n 1, 1), (.iload_n 2, 1), (.iload 6, 2), (.iload 7, 2), (.invokestatic 78, 3), (.ishl, 1), (.ior, 1), (.iastore, 1), (.iinc 7 1, 3), (.goto (-45), 3)]),
  (74, 8, [(.iinc 6 1, 3), (.goto (-64), 3)]),
  (80, 7, [(.return_, 1)])]
theorem b_X7_composeBy_ok : x_okB cX7_composeBy 8 b_X7_composeBy = true := by decide +kernel
def X_X7_composeBy : x_X := ([(7, 5, 0)], [], [], [], [(234, q_X7_relation)], (0, 0), x_kn, x_kf, 5, false)
theorem X_X7_composeBy_ok : x_okT RX7 X_X7_composeBy = true := by decide +kernel
theorem k_X7_composeBy (l : Launch) : ∀ z ∈ X_X7_composeBy.2.2.2.2.1, x_Cal l (x_rm 3 0 0) cX7_composeBy RX7 8 z.1 z.2 := List.forall_mem_cons.mpr ⟨x_cal_S (idx := 78) (c_X7_relation l) ⟨by decide, by decide⟩ (by decide +kernel) (by decide +kernel) (by decide +kernel) (by decide +kernel) (by decide +kernel), fun _ h => absurd h List.not_mem_nil⟩
set_option maxHeartbeats 4000000 in
set_option maxRecDepth 100000 in
theorem c_X7_composeBy (l : Launch) : x_CT l yX7_composeBy cX7_composeBy 8 none 3 q_X7_composeBy := by
  refine x_meth (X := X_X7_composeBy) (bl := b_X7_composeBy) (cut := [13, 26]) (own := RX7) 30 (by decide) rfl X_X7_composeBy_ok b_X7_composeBy_ok rfl (Nat.le_of_ble_eq_true rfl) (k_X7_composeBy l) ?_
  rintro as S M - ⟨a, z, b, y, hv, hS0, rfl, rfl⟩
  have hv1 := hv.1
  have hv2 := hv.2.1
  have hv3 := hv.2.2.1
  have hv4 := hv.2.2.2
  refine ⟨fun μ pc ls st S' M' cs sl => (∃ (c : Nat) (gI : Nat → Int32), c ≤ 6 ∧ M' = x_row M 54 gI ∧ CmS gI ∧ Gr (M 54) gI ∧ cD gI a z b y (c * 7) ∧ pc = 13 ∧ st = [] ∧ S' = SH ∧ cs = 0 ∧ sl = 0 ∧ ls = [.inr (.inl 53), .inl (nI a), .inl (nI z), .inl (nI b), .inl (nI y), .inl (nI (rN a z b y)), .inl (nI c)] ∧ μ = 2 * (100 - c * 7) + 1) ∨ (∃ (c x : Nat) (gI : Nat → Int32), c < 6 ∧ c < x ∧ x ≤ 6 ∧ M' = x_row M 54 gI ∧ CmS gI ∧ Gr (M 54) gI ∧ cD gI a z b y (c * 7 + x) ∧ pc = 26 ∧ st = [] ∧ S' = SH ∧ cs = 0 ∧ sl = 0 ∧ ls = [.inr (.inl 53), .inl (nI a), .inl (nI z), .inl (nI b), .inl (nI y), .inl (nI (rN a z b y)), .inl (nI c), .inl (nI x)] ∧ μ = 2 * (100 - (c * 7 + x))), ?_, ?_⟩
  · skip
    refine xt_blk rfl rfl (by dsimp only [List.take]) ?_
    refine xt_iln1 rfl ?_
    refine xt_iln2 rfl ?_
    refine xt_iln3 rfl ?_
    refine xt_ild rfl ?_
    refine xt_v4 (key := 234) (q := q_X7_relation) rfl rfl rfl rfl rfl ⟨Nat.le_of_ble_eq_true rfl, Nat.le_of_ble_eq_true rfl⟩ ⟨_, _, _, _, nI_lt hv.1 (by omega), nI_lt hv.2.2.1 (by omega), rfl⟩ (fun rv_ S1 M_5 hq_5 => ?_)
    obtain ⟨eS_, eM_, rfl⟩ := hq_5 _ _ _ _ (nI_lt hv.1 (by omega)) (nI_lt hv.2.2.1 (by omega)) rfl
    replace eS_ := eS_.symm
    replace eM_ := eM_.symm
    subst eS_ eM_
    rw [bw_nI (by omega) (by omega) (by omega) (by omega)]
    try dsimp only [Option.toList, List.cons_append, List.nil_append]
    refine xt_ist rfl (by dsimp only [x_sto]) ?_
    refine xt_ic ?_
    refine xt_ist rfl (by dsimp only [x_sto]) ?_
    refine xt_nil (t := 13) rfl ?_
    refine xt_cut rfl rfl (by dsimp only [List.take]) ?_
    exact ⟨_, Or.inl ⟨0, M 54, by omega, by rw [x_row_id], hS0, Gr_rf _, fun c x _ _ h => by omega, rfl, rfl, rfl, rfl, rfl, rfl, rfl⟩⟩
  · rintro μ pc ls st S2 M2 cs sl (⟨c, gI, hc, rfl, hS, hG, hD, rfl, rfl, rfl, rfl, rfl, rfl, rfl⟩ | ⟨c, x, gI, hc, hcx, hx, rfl, hS, hG, hD, rfl, rfl, rfl, rfl, rfl, rfl, rfl⟩)
    · refine ⟨_, rfl, ?_⟩
      refine xt_ild rfl ?_
      refine xt_bi ?_
      refine xt_cge (t := 80) rfl (fun hc_17 => ?_) (fun hc_17 => ?_)
      · skip
        refine xt_blk rfl rfl (by dsimp only [List.take]) ?_
        refine xt_rv rfl (Nat.le_refl _) ?_
        intro a2 z2 b2 y2 hv2 e2
        simp only [List.cons.injEq, Sum.inl.injEq, and_true, true_and] at e2
        obtain ⟨ea, ez, eb, ey⟩ := e2
        obtain ⟨u1, u2, u3, u4⟩ := hv2
        rw [nI_eq (by omega) (by omega)] at ea ez eb ey
        subst ea ez eb ey
        have hc6 : c = 6 := by rw [nI_leI (by omega) (by omega)] at hc_17; omega
        subst hc6
        exact ⟨rfl, ⟨gI, rfl, hS, hG, hD⟩, rfl⟩
      · skip
        have hc6 : c < 6 := by rw [nI_leI (by omega) (by omega)] at hc_17; omega
        refine xt_ild rfl ?_
        refine xt_ic ?_
        refine xt_add ?_
        refine xt_ist rfl (by dsimp only [x_sto]) ?_
        refine xt_nil (t := 26) rfl ?_
        refine xt_cut rfl rfl (by dsimp only [List.take]) ?_
        exact ⟨2 * (100 - (c * 7 + (c + 1))), by omega, Or.inr ⟨c, c + 1, gI, hc6, by omega, by omega, rfl, hS, hG, fun c2 x2 h1 h2 h3 => hD c2 x2 h1 h2 (by omega), rfl, rfl, rfl, rfl, rfl, by rw [nI_add], rfl⟩⟩
    · refine ⟨_, rfl, ?_⟩
      refine xt_ild rfl ?_
      refine xt_bi ?_
      refine xt_cge (t := 74) rfl (fun hc_30 => ?_) (fun hc_30 => ?_)
      · skip
        refine xt_blk rfl rfl (by dsimp only [List.take]) ?_
        refine xt_inc rfl (by dsimp only [x_sto]) ?_
        refine xt_goto (t := 13) rfl ?_
        refine xt_cut rfl rfl (by dsimp only [List.take]) ?_
        have hx6 : x = 6 := by rw [nI_leI (by omega) (by omega)] at hc_30; omega
        subst hx6
        exact ⟨2 * (100 - (c + 1) * 7) + 1, by omega, Or.inl ⟨c + 1, gI, by omega, rfl, hS, hG, fun c2 x2 h1 h2 h3 => hD c2 x2 h1 h2 (by omega), rfl, rfl, rfl, rfl, rfl, by rw [nI_add], rfl⟩⟩
      · skip
        have hx6 : x < 6 := by rw [nI_leI (by omega) (by omega)] at hc_30; omega
        have r13 := rN_lt a z b y
        have s13 := rN_lt b y c x
        have t13 := rN_lt a z c x
        have ix : nI 13 * nI (rN a z b y) + nI (rN b y c x) = nI (13 * rN a z b y + rN b y c x) := by rw [pk_mul, nI_add]
        obtain ⟨v, hgv, hvl, -⟩ := hS (13 * rN a z b y + rN b y c x) (by omega)
        have hp : 2 ^ rN a z c x < 2 ^ 13 := Nat.pow_lt_pow_right (by decide) t13
        have es : nI 1 <<< (nI (rN a z c x) &&& 31) = nI (2 ^ rN a z c x) := by rw [n_shl (by omega) (by omega), Nat.one_mul]
        have em : upd gI (13 * rN a z b y + rN b y c x) (gI (13 * rN a z b y + rN b y c x) ||| nI (2 ^ rN a z c x)) = upd gI (13 * rN a z b y + rN b y c x) (nI (v ||| 2 ^ rN a z c x)) := by rw [hgv, n_or]
        obtain ⟨st1, st2, st3⟩ := cb_step hS hv hcx hx6 hgv hvl
        refine xt_aln0 rfl (by first | decide | omega | assumption) ?_
        refine xt_gfr (q := (5, 0)) rfl (by first | rfl | assumption) rfl ?_
        refine xt_bi ?_
        refine xt_ild rfl ?_
        refine xt_mul ?_
        refine xt_iln3 rfl ?_
        refine xt_ild rfl ?_
        refine xt_ild rfl ?_
        refine xt_ild rfl ?_
        refine xt_v4 (key := 234) (q := q_X7_relation) rfl rfl rfl rfl rfl ⟨Nat.le_of_ble_eq_true rfl, Nat.le_of_ble_eq_true rfl⟩ ⟨_, _, _, _, nI_lt hv.2.2.1 (by omega), nI_lt hcx (by omega), rfl⟩ (fun rv_ S1 M_49 hq_49 => ?_)
        obtain ⟨eS_, eM_, rfl⟩ := hq_49 _ _ _ _ (nI_lt hv.2.2.1 (by omega)) (nI_lt hcx (by omega)) rfl
        replace eS_ := eS_.symm
        replace eM_ := eM_.symm
        subst eS_ eM_
        rw [bw_nI (by omega) (by omega) (by omega) (by omega)]
        try dsimp only [Option.toList, List.cons_append, List.nil_append]
        refine xt_add ?_
        refine xt_dup2 ?_
        refine xt_ial (by first | rfl | assumption) (show vp_in _ 169 from by rw [ix]; exact vp_in_nI (by omega) (by decide)) ?_
        refine xt_ic ?_
        refine xt_iln1 rfl ?_
        refine xt_iln2 rfl ?_
        refine xt_ild rfl ?_
        refine xt_ild rfl ?_
        refine xt_v4 (key := 234) (q := q_X7_relation) rfl rfl rfl rfl rfl ⟨Nat.le_of_ble_eq_true rfl, Nat.le_of_ble_eq_true rfl⟩ ⟨_, _, _, _, nI_lt hv.1 (by omega), nI_lt hcx (by omega), rfl⟩ (fun rv_ S1 M_62 hq_62 => ?_)
        obtain ⟨eS_, eM_, rfl⟩ := hq_62 _ _ _ _ (nI_lt hv.1 (by omega)) (nI_lt hcx (by omega)) rfl
        replace eS_ := eS_.symm
        replace eM_ := eM_.symm
        subst eS_ eM_
        rw [bw_nI (by omega) (by omega) (by omega) (by omega)]
        try dsimp only [Option.toList, List.cons_append, List.nil_append]
        refine xt_shl ?_
        refine xt_or ?_
        refine xt_ias (by first | rfl | assumption) (show vp_in _ 169 from by rw [ix]; exact vp_in_nI (by omega) (by decide)) ?_
        refine xt_inc rfl (by dsimp only [x_sto]) ?_
        refine xt_goto (t := 26) rfl ?_
        refine xt_cut rfl rfl (by dsimp only [List.take]) ?_
        refine ⟨2 * (100 - (c * 7 + (x + 1))), by omega, Or.inr ⟨c, x + 1, _, hc, by omega, by omega, by rw [x_row_self, x_row_row, ix, es, nI_clamp (by omega), em], st1, Gr_tr hG st2, ?_, rfl, rfl, rfl, rfl, rfl, by rw [nI_add], rfl⟩⟩
        intro c2 x2 h1 h2 h3
        by_cases e : c2 = c ∧ x2 = x
        · obtain ⟨rfl, rfl⟩ := e; exact st3
        · have s2 := rN_lt b y c2 x2
          exact st2 _ _ (by omega) (hD c2 x2 h1 h2 (by omega))
def q_X7_findComposed : x_K := (1, fun as S M => M 54 = (fun _ => 0) ∧ S = SH ∧ as = [.inr (.inl 53)], fun as S M rv_ S' M' => as = [.inr (.inl 53)] → S' = S ∧ (∃ gI, M' = x_row M 54 gI) ∧ T54 M' ∧ rv_ = none, 0, 0)
theorem r_X7_findComposed : ∀ as S M, q_X7_findComposed.2.1 as S M → ∃ (k : Nat) (as' : List x_V) (fs : List (Option Nat)), as = .inr (.inl k) :: as' ∧ S[k]? = some (.inl (5, fs)) := by
  rintro as S M ⟨-, rfl, rfl⟩
  exact ⟨53, _, _, rfl, rfl⟩
def b_X7_findComposed : x_B := [(0, 1, [(.iconst 0, 1), (.istore_n 1, 1)]),
  (2, 2, [(.iload_n 1, 1), (.bipush 6, 2), (.if_icmp .ge 66, 3), (.iload_n 1, 1), (.iconst 1, 1), (.iadd, 1), (.istore_n 2, 1)]),
  (12, 3, [(.iload_n 2, 1), (.bipush 6, 2), (.if_icmp .ge 50, 3), (.iconst 0, 1), (.istore_n 3, 1)]),
  (20, 4, [(.iload_n 3, 1), (.bipush 6, 2), (.if_icmp .ge 36, 3), (.iload_n 3, 1), (.iconst 1, 1), (.iadd, 1), (.istore 4, 2)]),
  (31, 5, [(.iload 4, 2), (.bipush 6, 2), (.if_icmp .ge 18, 3), (.aload_n 0, 1), (.iload_n 1, 1), (.iload_n 2, 1), (.iload_n 3, 1), (.iload 4, 2), (.invokevirtual 81, 3), (.iinc 4 1, 3), (.goto (-19), 3)]),
  (53, 5, [(.iinc 3 1, 3), (.goto (-36), 3)]),
  (59, 4, [(.iinc 2 1, 3), (.goto (-50), 3)]),
  (65, 3, [(.iinc 1 1, 3), (.goto (-66), 3)]),
  (71, 2, [(.return_, 1)])]
theorem b_X7_findComposed_ok : x_okB cX7_findComposed 5 b_X7_findComposed = true := by decide +kernel
def X_X7_findComposed : x_X := ([], [], [], [], [(244, q_X7_composeBy)], (0, 0), x_kn, x_kf, 5, false)
theorem X_X7_findComposed_ok : x_okT RX7 X_X7_findComposed = true := by decide +kernel
theorem k_X7_findComposed (l : Launch) : ∀ z ∈ X_X7_findComposed.2.2.2.2.1, x_Cal l (x_rm 4 0 0) cX7_findComposed RX7 5 z.1 z.2 := List.forall_mem_cons.mpr ⟨x_cal_V (idx := 81) (ci := 5) (n := 4) (c_X7_composeBy l) ⟨by decide, by decide⟩ (by decide +kernel) (by decide +kernel) (by decide +kernel) (by decide +kernel) (by decide +kernel) rfl rfl rfl (by decide +kernel) r_X7_composeBy, fun _ h => absurd h List.not_mem_nil⟩
theorem cD_gr {g g' : Nat → Int32} (h : Gr g g') {a z b y n : Nat} (q : cD g a z b y n) : cD g' a z b y n := fun c x h1 h2 h3 => by
  have r13 := rN_lt a z b y
  have s13 := rN_lt b y c x
  exact h _ _ (by omega) (q c x h1 h2 h3)
theorem cm_fin {g : Nat → Int32} (hS : CmS g) (hD : ∀ a z b y, Vq a z b y → cD g a z b y 42) : ∀ j, j < 169 → g j = nI (cmT j) := fun j hj => by
  obtain ⟨v, h1, h2, h3⟩ := hS j hj
  have e : v = cmT j := by
    refine tb_ext h2 (cmT_lt j) (fun t ht => ⟨fun q => sb_tb.mp h3 t q, fun q => ?_⟩)
    have ej : j / 13 * 13 + j % 13 = j := by omega
    rw [← ej] at q
    obtain ⟨a, z, b, y, c, x, hv, hc, hx, e1, e2, e3⟩ := cm_ex (by omega) (by omega) ht q
    obtain ⟨u, u1, u2, u3⟩ := hD a z b y hv c x hc hx (by omega)
    rw [e1, e2, show 13 * (j / 13) + j % 13 = j by omega, h1, nI_eq (by omega) (by omega)] at u1
    rw [e3] at u3
    rw [u1]; exact u3
  rw [h1, e]
set_option maxHeartbeats 4000000 in
set_option maxRecDepth 100000 in
theorem c_X7_findComposed (l : Launch) : x_CT l yX7_findComposed cX7_findComposed 5 none 4 q_X7_findComposed := by
  refine x_meth (X := X_X7_findComposed) (bl := b_X7_findComposed) (cut := [2, 12, 20, 31]) (own := RX7) 30 (by decide) rfl X_X7_findComposed_ok b_X7_findComposed_ok rfl (Nat.le_of_ble_eq_true rfl) (k_X7_findComposed l) ?_
  rintro as S M - ⟨h54, rfl, rfl⟩
  refine ⟨fun μ pc ls st S' M' cs sl => (∃ (a : Nat) (gI : Nat → Int32), (a ≤ 6) ∧ M' = x_row M 54 gI ∧ CmS gI ∧ Dn (fun a z b y => cD gI a z b y 42) (cd a 0 0 0) ∧ pc = 2 ∧ st = [] ∧ S' = SH ∧ cs = 0 ∧ sl = 0 ∧ ls = [.inr (.inl 53), .inl (nI a)] ∧ μ = 5 * (3000 - cd a 0 0 0) + 4) ∨ (∃ (a z : Nat) (gI : Nat → Int32), (a < 6 ∧ a < z ∧ z ≤ 6) ∧ M' = x_row M 54 gI ∧ CmS gI ∧ Dn (fun a z b y => cD gI a z b y 42) (cd a z 0 0) ∧ pc = 12 ∧ st = [] ∧ S' = SH ∧ cs = 0 ∧ sl = 0 ∧ ls = [.inr (.inl 53), .inl (nI a), .inl (nI z)] ∧ μ = 5 * (3000 - cd a z 0 0) + 3) ∨ (∃ (a z b : Nat) (gI : Nat → Int32), (a < z ∧ z < 6 ∧ b ≤ 6) ∧ M' = x_row M 54 gI ∧ CmS gI ∧ Dn (fun a z b y => cD gI a z b y 42) (cd a z b 0) ∧ pc = 20 ∧ st = [] ∧ S' = SH ∧ cs = 0 ∧ sl = 0 ∧ ls = [.inr (.inl 53), .inl (nI a), .inl (nI z), .inl (nI b)] ∧ μ = 5 * (3000 - cd a z b 0) + 2) ∨ (∃ (a z b y : Nat) (gI : Nat → Int32), (a < z ∧ z < 6 ∧ b < y ∧ y ≤ 6) ∧ M' = x_row M 54 gI ∧ CmS gI ∧ Dn (fun a z b y => cD gI a z b y 42) (cd a z b y) ∧ pc = 31 ∧ st = [] ∧ S' = SH ∧ cs = 0 ∧ sl = 0 ∧ ls = [.inr (.inl 53), .inl (nI a), .inl (nI z), .inl (nI b), .inl (nI y)] ∧ μ = 5 * (3000 - cd a z b y) + 1), ?_, ?_⟩
  · skip
    refine xt_blk rfl rfl (by dsimp only [List.take]) ?_
    refine xt_ic ?_
    refine xt_isn1 rfl (by dsimp only [x_sto]) ?_
    refine xt_nil (t := 2) rfl ?_
    refine xt_cut rfl rfl (by dsimp only [List.take]) ?_
    exact ⟨_, Or.inl ⟨0, M 54, by omega, by rw [x_row_id], by rw [h54]; exact fun j hj => ⟨0, rfl, by decide, by unfold sb; rw [Nat.zero_and]⟩, fun a z b y hv hn => by unfold cd at hn; omega, rfl, rfl, rfl, rfl, rfl, rfl, rfl⟩⟩
  · rintro μ pc ls st S2 M2 cs sl (⟨a, gI, ha, rfl, hS, hD, rfl, rfl, rfl, rfl, rfl, rfl, rfl⟩ | ⟨a, z, gI, ⟨ha, haz, hz⟩, rfl, hS, hD, rfl, rfl, rfl, rfl, rfl, rfl, rfl⟩ | ⟨a, z, b, gI, ⟨haz, hz, hb⟩, rfl, hS, hD, rfl, rfl, rfl, rfl, rfl, rfl, rfl⟩ | ⟨a, z, b, y, gI, ⟨haz, hz, hby, hy⟩, rfl, hS, hD, rfl, rfl, rfl, rfl, rfl, rfl, rfl⟩)
    · refine ⟨_, rfl, ?_⟩
      refine xt_iln1 rfl ?_
      refine xt_bi ?_
      refine xt_cge (t := 71) rfl (fun hc_5 => ?_) (fun hc_5 => ?_)
      · skip
        refine xt_blk rfl rfl (by dsimp only [List.take]) ?_
        refine xt_rv rfl (Nat.le_refl _) ?_
        have h6 : a = 6 := by rw [nI_leI (by omega) (by omega)] at hc_5; omega
        subst h6
        intro e2
        refine ⟨rfl, ⟨gI, rfl⟩, ?_, rfl⟩
        intro j hj
        rw [x_row_self]
        exact cm_fin hS (fun a z b y hv => Dn_all hD hv) j hj
      · skip
        refine xt_iln1 rfl ?_
        refine xt_ic ?_
        refine xt_add ?_
        refine xt_isn2 rfl (by dsimp only [x_sto]) ?_
        refine xt_nil (t := 12) rfl ?_
        refine xt_cut rfl rfl (by dsimp only [List.take]) ?_
        have h6 : a < 6 := by rw [nI_leI (by omega) (by omega)] at hc_5; omega
        exact ⟨5 * (3000 - cd a (a + 1) 0 0) + 3, by unfold cd; omega, Or.inr (Or.inl ⟨a, a + 1, gI, ⟨h6, by omega, by omega⟩, rfl, hS, Dn_0 h6 hD, rfl, rfl, rfl, rfl, rfl, by rw [nI_add], rfl⟩)⟩
    · refine ⟨_, rfl, ?_⟩
      refine xt_iln2 rfl ?_
      refine xt_bi ?_
      refine xt_cge (t := 65) rfl (fun hc_15 => ?_) (fun hc_15 => ?_)
      · skip
        refine xt_blk rfl rfl (by dsimp only [List.take]) ?_
        refine xt_inc rfl (by dsimp only [x_sto]) ?_
        refine xt_goto (t := 2) rfl ?_
        refine xt_cut rfl rfl (by dsimp only [List.take]) ?_
        have h6 : z = 6 := by rw [nI_leI (by omega) (by omega)] at hc_15; omega
        subst h6
        exact ⟨5 * (3000 - cd (a + 1) 0 0 0) + 4, by unfold cd; omega, Or.inl ⟨a + 1, gI, by omega, rfl, hS, Dn_a hD, rfl, rfl, rfl, rfl, rfl, by rw [nI_add], rfl⟩⟩
      · skip
        refine xt_ic ?_
        refine xt_isn3 rfl (by dsimp only [x_sto]) ?_
        refine xt_nil (t := 20) rfl ?_
        refine xt_cut rfl rfl (by dsimp only [List.take]) ?_
        have h6 : z < 6 := by rw [nI_leI (by omega) (by omega)] at hc_15; omega
        exact ⟨5 * (3000 - cd a z 0 0) + 2, by unfold cd; omega, Or.inr (Or.inr (Or.inl ⟨a, z, 0, gI, ⟨haz, h6, by omega⟩, rfl, hS, hD, rfl, rfl, rfl, rfl, rfl, rfl, rfl⟩))⟩
    · refine ⟨_, rfl, ?_⟩
      refine xt_iln3 rfl ?_
      refine xt_bi ?_
      refine xt_cge (t := 59) rfl (fun hc_23 => ?_) (fun hc_23 => ?_)
      · skip
        refine xt_blk rfl rfl (by dsimp only [List.take]) ?_
        refine xt_inc rfl (by dsimp only [x_sto]) ?_
        refine xt_goto (t := 12) rfl ?_
        refine xt_cut rfl rfl (by dsimp only [List.take]) ?_
        have h6 : b = 6 := by rw [nI_leI (by omega) (by omega)] at hc_23; omega
        subst h6
        exact ⟨5 * (3000 - cd a (z + 1) 0 0) + 3, by unfold cd; omega, Or.inr (Or.inl ⟨a, z + 1, gI, ⟨by omega, by omega, by omega⟩, rfl, hS, Dn_z hD, rfl, rfl, rfl, rfl, rfl, by rw [nI_add], rfl⟩)⟩
      · skip
        refine xt_iln3 rfl ?_
        refine xt_ic ?_
        refine xt_add ?_
        refine xt_ist rfl (by dsimp only [x_sto]) ?_
        refine xt_nil (t := 31) rfl ?_
        refine xt_cut rfl rfl (by dsimp only [List.take]) ?_
        have h6 : b < 6 := by rw [nI_leI (by omega) (by omega)] at hc_23; omega
        exact ⟨5 * (3000 - cd a z b (b + 1)) + 1, by unfold cd; omega, Or.inr (Or.inr (Or.inr ⟨a, z, b, b + 1, gI, ⟨haz, hz, by omega, by omega⟩, rfl, hS, Dn_b h6 hD, rfl, rfl, rfl, rfl, rfl, by rw [nI_add], rfl⟩))⟩
    · refine ⟨_, rfl, ?_⟩
      refine xt_ild rfl ?_
      refine xt_bi ?_
      refine xt_cge (t := 53) rfl (fun hc_35 => ?_) (fun hc_35 => ?_)
      · skip
        refine xt_blk rfl rfl (by dsimp only [List.take]) ?_
        refine xt_inc rfl (by dsimp only [x_sto]) ?_
        refine xt_goto (t := 20) rfl ?_
        refine xt_cut rfl rfl (by dsimp only [List.take]) ?_
        have h6 : y = 6 := by rw [nI_leI (by omega) (by omega)] at hc_35; omega
        subst h6
        exact ⟨5 * (3000 - cd a z (b + 1) 0) + 2, by unfold cd; omega, Or.inr (Or.inr (Or.inl ⟨a, z, b + 1, gI, ⟨haz, hz, by omega⟩, rfl, hS, Dn_y hD, rfl, rfl, rfl, rfl, rfl, by rw [nI_add], rfl⟩))⟩
      · skip
        have hy6 : y < 6 := by rw [nI_leI (by omega) (by omega)] at hc_35; omega
        have hVq : Vq a z b y := ⟨haz, hz, hby, hy6⟩
        refine xt_aln0 rfl (by first | decide | omega | assumption) ?_
        refine xt_iln1 rfl ?_
        refine xt_iln2 rfl ?_
        refine xt_iln3 rfl ?_
        refine xt_ild rfl ?_
        refine xt_v5 (key := 244) (q := q_X7_composeBy) rfl rfl rfl rfl rfl ⟨Nat.le_of_ble_eq_true rfl, Nat.le_of_ble_eq_true rfl⟩ ⟨a, z, b, y, hVq, by rw [x_row_self]; exact hS, rfl, rfl⟩ (fun rv_ S1 M_44 hq_44 => ?_)
        obtain ⟨eS_, ⟨gJ, eM_, hS2, hG2, hD2⟩, rfl⟩ := hq_44 a z b y hVq rfl
        replace eS_ := eS_.symm
        replace eM_ := eM_.symm
        subst eS_ eM_
        rw [x_row_row]
        rw [x_row_self] at hG2
        try dsimp only [Option.toList, List.cons_append, List.nil_append]
        refine xt_inc rfl (by dsimp only [x_sto]) ?_
        refine xt_goto (t := 31) rfl ?_
        refine xt_cut rfl rfl (by dsimp only [List.take]) ?_
        exact ⟨5 * (3000 - cd a z b (y + 1)) + 1, by unfold cd; omega, Or.inr (Or.inr (Or.inr ⟨a, z, b, y + 1, gJ, ⟨haz, hz, by omega, by omega⟩, rfl, hS2, Dn_s hVq (fun a2 z2 b2 y2 hv2 hn2 => cD_gr hG2 (hD a2 z2 b2 y2 hv2 hn2)) hD2, rfl, rfl, rfl, rfl, rfl, by rw [nI_add], rfl⟩))⟩
