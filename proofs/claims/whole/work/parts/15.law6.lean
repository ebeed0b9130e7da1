theorem dL_law_1835 : decode code 1835 = .ok (.aload_n 1, 1) := by decide +kernel
theorem dL_law_1836 : decode code 1836 = .ok (.aload_n 0, 1) := by decide +kernel
theorem dL_law_1837 : decode code 1837 = .ok (.iload_n 3, 1) := by decide +kernel
theorem dL_law_1838 : decode code 1838 = .ok (.iconst 1, 1) := by decide +kernel
theorem dL_law_1839 : decode code 1839 = .ok (.iadd, 1) := by decide +kernel
theorem dL_law_1840 : decode code 1840 = .ok (.iaload, 1) := by decide +kernel
theorem dL_law_1841 : decode code 1841 = .ok (.aload_n 0, 1) := by decide +kernel
theorem dL_law_1842 : decode code 1842 = .ok (.iload_n 3, 1) := by decide +kernel
theorem dL_law_1843 : decode code 1843 = .ok (.iconst 2, 1) := by decide +kernel
theorem dL_law_1844 : decode code 1844 = .ok (.iadd, 1) := by decide +kernel
theorem dL_law_1845 : decode code 1845 = .ok (.iaload, 1) := by decide +kernel
theorem dL_law_1846 : decode code 1846 = .ok (.aload_n 0, 1) := by decide +kernel
theorem dL_law_1847 : decode code 1847 = .ok (.iload_n 3, 1) := by decide +kernel
theorem dL_law_1848 : decode code 1848 = .ok (.iconst 3, 1) := by decide +kernel
theorem dL_law_1849 : decode code 1849 = .ok (.iadd, 1) := by decide +kernel
theorem dL_law_1850 : decode code 1850 = .ok (.iaload, 1) := by decide +kernel
theorem dL_law_1851 : decode code 1851 = .ok (.invokevirtual 185, 3) := by decide +kernel
theorem dL_law_1854 : decode code 1854 = .ok (.aload_n 2, 1) := by decide +kernel
theorem dL_law_1855 : decode code 1855 = .ok (.aload_n 0, 1) := by decide +kernel
theorem dL_law_1856 : decode code 1856 = .ok (.iload_n 3, 1) := by decide +kernel
theorem dL_law_1857 : decode code 1857 = .ok (.iconst 1, 1) := by decide +kernel
theorem dL_law_1858 : decode code 1858 = .ok (.iadd, 1) := by decide +kernel
theorem dL_law_1859 : decode code 1859 = .ok (.iaload, 1) := by decide +kernel
theorem dL_law_1860 : decode code 1860 = .ok (.aload_n 0, 1) := by decide +kernel
theorem dL_law_1861 : decode code 1861 = .ok (.iload_n 3, 1) := by decide +kernel
theorem dL_law_1862 : decode code 1862 = .ok (.iconst 2, 1) := by decide +kernel
theorem dL_law_1863 : decode code 1863 = .ok (.iadd, 1) := by decide +kernel
theorem dL_law_1864 : decode code 1864 = .ok (.iaload, 1) := by decide +kernel
theorem dL_law_1865 : decode code 1865 = .ok (.aload_n 0, 1) := by decide +kernel
theorem dL_law_1866 : decode code 1866 = .ok (.iload_n 3, 1) := by decide +kernel
theorem dL_law_1867 : decode code 1867 = .ok (.iconst 3, 1) := by decide +kernel
theorem dL_law_1868 : decode code 1868 = .ok (.iadd, 1) := by decide +kernel
theorem dL_law_1869 : decode code 1869 = .ok (.iaload, 1) := by decide +kernel
theorem dL_law_1870 : decode code 1870 = .ok (.invokevirtual 188, 3) := by decide +kernel
theorem dL_law_1873 : decode code 1873 = .ok (.if_icmp .eq 278, 3) := by decide +kernel
theorem dL_law_1876 : decode code 1876 = .ok (.iconst 0, 1) := by decide +kernel
theorem dL_law_1877 : decode code 1877 = .ok (.ireturn, 1) := by decide +kernel
set_option maxRecDepth 100000 in
theorem law_c40 {z : ZZ} {x : XX} {Q : State → Prop} {k n : Nat} {ad : Nat → Nat} {b L i x0 m0 : Nat} {xs : Nat → Int32} {σ σ1 : MS} {τ τ1 : XS} {r : Int32} (hC : CX z ad x code RL 4 ret) (hR : x.2.2.1 = room_1) (hX : SX z x b L xs) (hx0 : ad 36 = x0) (hm0 : ad 0 = m0) (hi : i + 4 < L) (hk : k + 0 ≤ 600000 ∧ n + 0 ≤ 7302250) (hW : W_shortBy τ (xs (i + 1)) (xs (i + 2)) (xs (i + 3)) = some (r, τ1)) (hM : M_shortBy σ (xs (i + 1)) (xs (i + 2)) (xs (i + 3)) = some (r, σ1)) (kk : ∀ ad2, exL ad ad2 → AL z x 4 Q (k + 0 + 0) (n + 0 + 0) 2151 [(3, .int (Int32.ofNat i)), (1, .ref x0), (2, .ref m0), (0, .ref b)] [] (wX z σ1 ad2 τ1)) : AL z x 4 Q k n 1835 [(3, .int (Int32.ofNat i)), (1, .ref x0), (2, .ref m0), (0, .ref b)] [] (wX z σ ad τ) := by
  refine al_aload_n (j := 1) hC rfl rfl dL_law_1835 ?_
  refine al_aload_n (j := 3) hC rfl rfl dL_law_1836 ?_
  refine al_iload_n (j := 0) hC rfl rfl dL_law_1837 ?_
  refine al_iconst (v := 1) hC rfl dL_law_1838 ?_
  refine al_iadd hC dL_law_1839 ?_
  refine al_sld (j := i + 1) hC hX (Int32.ofNat_add i 1).symm (by omega) dL_law_1840 ?_
  refine al_aload_n (j := 3) hC rfl rfl dL_law_1841 ?_
  refine al_iload_n (j := 0) hC rfl rfl dL_law_1842 ?_
  refine al_iconst (v := 2) hC rfl dL_law_1843 ?_
  refine al_iadd hC dL_law_1844 ?_
  refine al_sld (j := i + 2) hC hX (Int32.ofNat_add i 2).symm (by omega) dL_law_1845 ?_
  refine al_aload_n (j := 3) hC rfl rfl dL_law_1846 ?_
  refine al_iload_n (j := 0) hC rfl rfl dL_law_1847 ?_
  refine al_iconst (v := 3) hC rfl dL_law_1848 ?_
  refine al_iadd hC dL_law_1849 ?_
  refine al_sld (j := i + 3) hC hX (Int32.ofNat_add i 3).symm (by omega) dL_law_1850 ?_
  refine al_callL (w := wX z σ) (As := [.int (xs (i + 1)), .int (xs (i + 2)), .int (xs (i + 3))]) (rest := []) (s0 := τ) (s1 := τ1) (r0 := r) (q := 36) hC hR lkl_185 (c_W_shortBy τ (xs (i + 1)) (xs (i + 2)) (xs (i + 3))) hW (fun _ _ h => eqA.L h) dL_law_1851 recX10 rfl rfl hx0 rfl ⟨by decide, by decide⟩ (Nat.le_of_ble_eq_true rfl) ⟨by omega, by omega⟩ ⟨_, rfl, fun _ => rfl⟩ (fun ad1 hE1 hC => ?_)
  have hm0 := (hE1 0 (by omega)).trans hm0
  show AL z x 4 Q (k + 0) (n + 0) _ _ _ (wM z τ1 ad1 σ)
  refine al_aload_n (j := 2) hC rfl rfl dL_law_1854 ?_
  refine al_aload_n (j := 3) hC rfl rfl dL_law_1855 ?_
  refine al_iload_n (j := 0) hC rfl rfl dL_law_1856 ?_
  refine al_iconst (v := 1) hC rfl dL_law_1857 ?_
  refine al_iadd hC dL_law_1858 ?_
  refine al_sld (j := i + 1) hC hX (Int32.ofNat_add i 1).symm (by omega) dL_law_1859 ?_
  refine al_aload_n (j := 3) hC rfl rfl dL_law_1860 ?_
  refine al_iload_n (j := 0) hC rfl rfl dL_law_1861 ?_
  refine al_iconst (v := 2) hC rfl dL_law_1862 ?_
  refine al_iadd hC dL_law_1863 ?_
  refine al_sld (j := i + 2) hC hX (Int32.ofNat_add i 2).symm (by omega) dL_law_1864 ?_
  refine al_aload_n (j := 3) hC rfl rfl dL_law_1865 ?_
  refine al_iload_n (j := 0) hC rfl rfl dL_law_1866 ?_
  refine al_iconst (v := 3) hC rfl dL_law_1867 ?_
  refine al_iadd hC dL_law_1868 ?_
  refine al_sld (j := i + 3) hC hX (Int32.ofNat_add i 3).symm (by omega) dL_law_1869 ?_
  refine al_callL (w := wM z τ1) (As := [.int (xs (i + 1)), .int (xs (i + 2)), .int (xs (i + 3))]) (rest := [.int r]) (s0 := σ) (s1 := σ1) (r0 := r) (q := 0) hC hR lkl_188 (c_M_shortBy σ (xs (i + 1)) (xs (i + 2)) (xs (i + 3))) hM (fun _ _ h => eqA.L h) dL_law_1870 recX11 rfl rfl hm0 rfl ⟨by decide, by decide⟩ (Nat.le_of_ble_eq_true rfl) ⟨by omega, by omega⟩ ⟨_, rfl, fun _ => rfl⟩ (fun ad2 hE2 hC => ?_)
  show AL z x 4 Q _ _ _ _ _ (wX z σ1 ad2 τ1)
  refine al_icmp_eq (tgt := 2151) hC dL_law_1873 rfl (fun _ => ?_) (fun g => absurd rfl g)
  exact kk ad2 (hE1.trans hE2)
theorem dL_law_1878 : decode code 1878 = .ok (.aload_n 1, 1) := by decide +kernel
theorem dL_law_1879 : decode code 1879 = .ok (.aload_n 0, 1) := by decide +kernel
theorem dL_law_1880 : decode code 1880 = .ok (.iload_n 3, 1) := by decide +kernel
theorem dL_law_1881 : decode code 1881 = .ok (.iconst 1, 1) := by decide +kernel
theorem dL_law_1882 : decode code 1882 = .ok (.iadd, 1) := by decide +kernel
theorem dL_law_1883 : decode code 1883 = .ok (.iaload, 1) := by decide +kernel
theorem dL_law_1884 : decode code 1884 = .ok (.aload_n 0, 1) := by decide +kernel
theorem dL_law_1885 : decode code 1885 = .ok (.iload_n 3, 1) := by decide +kernel
theorem dL_law_1886 : decode code 1886 = .ok (.iconst 2, 1) := by decide +kernel
theorem dL_law_1887 : decode code 1887 = .ok (.iadd, 1) := by decide +kernel
theorem dL_law_1888 : decode code 1888 = .ok (.iaload, 1) := by decide +kernel
theorem dL_law_1889 : decode code 1889 = .ok (.invokevirtual 189, 3) := by decide +kernel
theorem dL_law_1892 : decode code 1892 = .ok (.aload_n 2, 1) := by decide +kernel
theorem dL_law_1893 : decode code 1893 = .ok (.aload_n 0, 1) := by decide +kernel
theorem dL_law_1894 : decode code 1894 = .ok (.iload_n 3, 1) := by decide +kernel
theorem dL_law_1895 : decode code 1895 = .ok (.iconst 1, 1) := by decide +kernel
theorem dL_law_1896 : decode code 1896 = .ok (.iadd, 1) := by decide +kernel
theorem dL_law_1897 : decode code 1897 = .ok (.iaload, 1) := by decide +kernel
theorem dL_law_1898 : decode code 1898 = .ok (.aload_n 0, 1) := by decide +kernel
theorem dL_law_1899 : decode code 1899 = .ok (.iload_n 3, 1) := by decide +kernel
theorem dL_law_1900 : decode code 1900 = .ok (.iconst 2, 1) := by decide +kernel
theorem dL_law_1901 : decode code 1901 = .ok (.iadd, 1) := by decide +kernel
theorem dL_law_1902 : decode code 1902 = .ok (.iaload, 1) := by decide +kernel
theorem dL_law_1903 : decode code 1903 = .ok (.invokevirtual 192, 3) := by decide +kernel
theorem dL_law_1906 : decode code 1906 = .ok (.if_icmp .eq 245, 3) := by decide +kernel
theorem dL_law_1909 : decode code 1909 = .ok (.iconst 0, 1) := by decide +kernel
theorem dL_law_1910 : decode code 1910 = .ok (.ireturn, 1) := by decide +kernel
set_option maxRecDepth 100000 in
theorem law_c41 {z : ZZ} {x : XX} {Q : State → Prop} {k n : Nat} {ad : Nat → Nat} {b L i x0 m0 : Nat} {xs : Nat → Int32} {σ σ1 : MS} {τ τ1 : XS} {r : Int32} (hC : CX z ad x code RL 4 ret) (hR : x.2.2.1 = room_1) (hX : SX z x b L xs) (hx0 : ad 36 = x0) (hm0 : ad 0 = m0) (hi : i + 4 < L) (hk : k + 0 ≤ 600000 ∧ n + 0 ≤ 7302250) (hW : W_step τ (xs (i + 1)) (xs (i + 2)) = some (r, τ1)) (hM : M_step σ (xs (i + 1)) (xs (i + 2)) = some (r, σ1)) (kk : ∀ ad2, exL ad ad2 → AL z x 4 Q (k + 0 + 0) (n + 0 + 0) 2151 [(3, .int (Int32.ofNat i)), (1, .ref x0), (2, .ref m0), (0, .ref b)] [] (wX z σ1 ad2 τ1)) : AL z x 4 Q k n 1878 [(3, .int (Int32.ofNat i)), (1, .ref x0), (2, .ref m0), (0, .ref b)] [] (wX z σ ad τ) := by
  refine al_aload_n (j := 1) hC rfl rfl dL_law_1878 ?_
  refine al_aload_n (j := 3) hC rfl rfl dL_law_1879 ?_
  refine al_iload_n (j := 0) hC rfl rfl dL_law_1880 ?_
  refine al_iconst (v := 1) hC rfl dL_law_1881 ?_
  refine al_iadd hC dL_law_1882 ?_
  refine al_sld (j := i + 1) hC hX (Int32.ofNat_add i 1).symm (by omega) dL_law_1883 ?_
  refine al_aload_n (j := 3) hC rfl rfl dL_law_1884 ?_
  refine al_iload_n (j := 0) hC rfl rfl dL_law_1885 ?_
  refine al_iconst (v := 2) hC rfl dL_law_1886 ?_
  refine al_iadd hC dL_law_1887 ?_
  refine al_sld (j := i + 2) hC hX (Int32.ofNat_add i 2).symm (by omega) dL_law_1888 ?_
  refine al_callL (w := wX z σ) (As := [.int (xs (i + 1)), .int (xs (i + 2))]) (rest := []) (s0 := τ) (s1 := τ1) (r0 := r) (q := 36) hC hR lkl_189 (c_W_step τ (xs (i + 1)) (xs (i + 2))) hW (fun _ _ h => eqA.L h) dL_law_1889 recX10 rfl rfl hx0 rfl ⟨by decide, by decide⟩ (Nat.le_of_ble_eq_true rfl) ⟨by omega, by omega⟩ ⟨_, rfl, fun _ => rfl⟩ (fun ad1 hE1 hC => ?_)
  have hm0 := (hE1 0 (by omega)).trans hm0
  show AL z x 4 Q (k + 0) (n + 0) _ _ _ (wM z τ1 ad1 σ)
  refine al_aload_n (j := 2) hC rfl rfl dL_law_1892 ?_
  refine al_aload_n (j := 3) hC rfl rfl dL_law_1893 ?_
  refine al_iload_n (j := 0) hC rfl rfl dL_law_1894 ?_
  refine al_iconst (v := 1) hC rfl dL_law_1895 ?_
  refine al_iadd hC dL_law_1896 ?_
  refine al_sld (j := i + 1) hC hX (Int32.ofNat_add i 1).symm (by omega) dL_law_1897 ?_
  refine al_aload_n (j := 3) hC rfl rfl dL_law_1898 ?_
  refine al_iload_n (j := 0) hC rfl rfl dL_law_1899 ?_
  refine al_iconst (v := 2) hC rfl dL_law_1900 ?_
  refine al_iadd hC dL_law_1901 ?_
  refine al_sld (j := i + 2) hC hX (Int32.ofNat_add i 2).symm (by omega) dL_law_1902 ?_
  refine al_callL (w := wM z τ1) (As := [.int (xs (i + 1)), .int (xs (i + 2))]) (rest := [.int r]) (s0 := σ) (s1 := σ1) (r0 := r) (q := 0) hC hR lkl_192 (c_M_step σ (xs (i + 1)) (xs (i + 2))) hM (fun _ _ h => eqA.L h) dL_law_1903 recX11 rfl rfl hm0 rfl ⟨by decide, by decide⟩ (Nat.le_of_ble_eq_true rfl) ⟨by omega, by omega⟩ ⟨_, rfl, fun _ => rfl⟩ (fun ad2 hE2 hC => ?_)
  show AL z x 4 Q _ _ _ _ _ (wX z σ1 ad2 τ1)
  refine al_icmp_eq (tgt := 2151) hC dL_law_1906 rfl (fun _ => ?_) (fun g => absurd rfl g)
  exact kk ad2 (hE1.trans hE2)
theorem dL_law_1911 : decode code 1911 = .ok (.aload_n 1, 1) := by decide +kernel
theorem dL_law_1912 : decode code 1912 = .ok (.aload_n 0, 1) := by decide +kernel
theorem dL_law_1913 : decode code 1913 = .ok (.iload_n 3, 1) := by decide +kernel
theorem dL_law_1914 : decode code 1914 = .ok (.iconst 1, 1) := by decide +kernel
theorem dL_law_1915 : decode code 1915 = .ok (.iadd, 1) := by decide +kernel
theorem dL_law_1916 : decode code 1916 = .ok (.iaload, 1) := by decide +kernel
theorem dL_law_1917 : decode code 1917 = .ok (.aload_n 0, 1) := by decide +kernel
theorem dL_law_1918 : decode code 1918 = .ok (.iload_n 3, 1) := by decide +kernel
theorem dL_law_1919 : decode code 1919 = .ok (.iconst 2, 1) := by decide +kernel
theorem dL_law_1920 : decode code 1920 = .ok (.iadd, 1) := by decide +kernel
theorem dL_law_1921 : decode code 1921 = .ok (.iaload, 1) := by decide +kernel
theorem dL_law_1922 : decode code 1922 = .ok (.aload_n 0, 1) := by decide +kernel
theorem dL_law_1923 : decode code 1923 = .ok (.iload_n 3, 1) := by decide +kernel
theorem dL_law_1924 : decode code 1924 = .ok (.iconst 3, 1) := by decide +kernel
theorem dL_law_1925 : decode code 1925 = .ok (.iadd, 1) := by decide +kernel
theorem dL_law_1926 : decode code 1926 = .ok (.iaload, 1) := by decide +kernel
theorem dL_law_1927 : decode code 1927 = .ok (.invokevirtual 193, 3) := by decide +kernel
theorem dL_law_1930 : decode code 1930 = .ok (.aload_n 2, 1) := by decide +kernel
theorem dL_law_1931 : decode code 1931 = .ok (.aload_n 0, 1) := by decide +kernel
theorem dL_law_1932 : decode code 1932 = .ok (.iload_n 3, 1) := by decide +kernel
theorem dL_law_1933 : decode code 1933 = .ok (.iconst 1, 1) := by decide +kernel
theorem dL_law_1934 : decode code 1934 = .ok (.iadd, 1) := by decide +kernel
theorem dL_law_1935 : decode code 1935 = .ok (.iaload, 1) := by decide +kernel
theorem dL_law_1936 : decode code 1936 = .ok (.aload_n 0, 1) := by decide +kernel
theorem dL_law_1937 : decode code 1937 = .ok (.iload_n 3, 1) := by decide +kernel
theorem dL_law_1938 : decode code 1938 = .ok (.iconst 2, 1) := by decide +kernel
theorem dL_law_1939 : decode code 1939 = .ok (.iadd, 1) := by decide +kernel
theorem dL_law_1940 : decode code 1940 = .ok (.iaload, 1) := by decide +kernel
theorem dL_law_1941 : decode code 1941 = .ok (.aload_n 0, 1) := by decide +kernel
theorem dL_law_1942 : decode code 1942 = .ok (.iload_n 3, 1) := by decide +kernel
theorem dL_law_1943 : decode code 1943 = .ok (.iconst 3, 1) := by decide +kernel
theorem dL_law_1944 : decode code 1944 = .ok (.iadd, 1) := by decide +kernel
theorem dL_law_1945 : decode code 1945 = .ok (.iaload, 1) := by decide +kernel
theorem dL_law_1946 : decode code 1946 = .ok (.invokevirtual 196, 3) := by decide +kernel
theorem dL_law_1949 : decode code 1949 = .ok (.if_icmp .eq 202, 3) := by decide +kernel
theorem dL_law_1952 : decode code 1952 = .ok (.iconst 0, 1) := by decide +kernel
theorem dL_law_1953 : decode code 1953 = .ok (.ireturn, 1) := by decide +kernel
set_option maxRecDepth 100000 in
theorem law_c42 {z : ZZ} {x : XX} {Q : State → Prop} {k n : Nat} {ad : Nat → Nat} {b L i x0 m0 : Nat} {xs : Nat → Int32} {σ σ1 : MS} {τ τ1 : XS} {r : Int32} (hC : CX z ad x code RL 4 ret) (hR : x.2.2.1 = room_1) (hX : SX z x b L xs) (hx0 : ad 36 = x0) (hm0 : ad 0 = m0) (hi : i + 4 < L) (hk : k + 0 ≤ 600000 ∧ n + 0 ≤ 7302250) (hW : W_plan τ (xs (i + 1)) (xs (i + 2)) (xs (i + 3)) = some (r, τ1)) (hM : M_plan σ (xs (i + 1)) (xs (i + 2)) (xs (i + 3)) = some (r, σ1)) (kk : ∀ ad2, exL ad ad2 → AL z x 4 Q (k + 0 + 0) (n + 0 + 0) 2151 [(3, .int (Int32.ofNat i)), (1, .ref x0), (2, .ref m0), (0, .ref b)] [] (wX z σ1 ad2 τ1)) : AL z x 4 Q k n 1911 [(3, .int (Int32.ofNat i)), (1, .ref x0), (2, .ref m0), (0, .ref b)] [] (wX z σ ad τ) := by
  refine al_aload_n (j := 1) hC rfl rfl dL_law_1911 ?_
  refine al_aload_n (j := 3) hC rfl rfl dL_law_1912 ?_
  refine al_iload_n (j := 0) hC rfl rfl dL_law_1913 ?_
  refine al_iconst (v := 1) hC rfl dL_law_1914 ?_
  refine al_iadd hC dL_law_1915 ?_
  refine al_sld (j := i + 1) hC hX (Int32.ofNat_add i 1).symm (by omega) dL_law_1916 ?_
  refine al_aload_n (j := 3) hC rfl rfl dL_law_1917 ?_
  refine al_iload_n (j := 0) hC rfl rfl dL_law_1918 ?_
  refine al_iconst (v := 2) hC rfl dL_law_1919 ?_
  refine al_iadd hC dL_law_1920 ?_
  refine al_sld (j := i + 2) hC hX (Int32.ofNat_add i 2).symm (by omega) dL_law_1921 ?_
  refine al_aload_n (j := 3) hC rfl rfl dL_law_1922 ?_
  refine al_iload_n (j := 0) hC rfl rfl dL_law_1923 ?_
  refine al_iconst (v := 3) hC rfl dL_law_1924 ?_
  refine al_iadd hC dL_law_1925 ?_
  refine al_sld (j := i + 3) hC hX (Int32.ofNat_add i 3).symm (by omega) dL_law_1926 ?_
  refine al_callL (w := wX z σ) (As := [.int (xs (i + 1)), .int (xs (i + 2)), .int (xs (i + 3))]) (rest := []) (s0 := τ) (s1 := τ1) (r0 := r) (q := 36) hC hR lkl_193 (c_W_plan τ (xs (i + 1)) (xs (i + 2)) (xs (i + 3))) hW (fun _ _ h => eqA.L h) dL_law_1927 recX10 rfl rfl hx0 rfl ⟨by decide, by decide⟩ (Nat.le_of_ble_eq_true rfl) ⟨by omega, by omega⟩ ⟨_, rfl, fun _ => rfl⟩ (fun ad1 hE1 hC => ?_)
  have hm0 := (hE1 0 (by omega)).trans hm0
  show AL z x 4 Q (k + 0) (n + 0) _ _ _ (wM z τ1 ad1 σ)
  refine al_aload_n (j := 2) hC rfl rfl dL_law_1930 ?_
  refine al_aload_n (j := 3) hC rfl rfl dL_law_1931 ?_
  refine al_iload_n (j := 0) hC rfl rfl dL_law_1932 ?_
  refine al_iconst (v := 1) hC rfl dL_law_1933 ?_
  refine al_iadd hC dL_law_1934 ?_
  refine al_sld (j := i + 1) hC hX (Int32.ofNat_add i 1).symm (by omega) dL_law_1935 ?_
  refine al_aload_n (j := 3) hC rfl rfl dL_law_1936 ?_
  refine al_iload_n (j := 0) hC rfl rfl dL_law_1937 ?_
  refine al_iconst (v := 2) hC rfl dL_law_1938 ?_
  refine al_iadd hC dL_law_1939 ?_
  refine al_sld (j := i + 2) hC hX (Int32.ofNat_add i 2).symm (by omega) dL_law_1940 ?_
  refine al_aload_n (j := 3) hC rfl rfl dL_law_1941 ?_
  refine al_iload_n (j := 0) hC rfl rfl dL_law_1942 ?_
  refine al_iconst (v := 3) hC rfl dL_law_1943 ?_
  refine al_iadd hC dL_law_1944 ?_
  refine al_sld (j := i + 3) hC hX (Int32.ofNat_add i 3).symm (by omega) dL_law_1945 ?_
  refine al_callL (w := wM z τ1) (As := [.int (xs (i + 1)), .int (xs (i + 2)), .int (xs (i + 3))]) (rest := [.int r]) (s0 := σ) (s1 := σ1) (r0 := r) (q := 0) hC hR lkl_196 (c_M_plan σ (xs (i + 1)) (xs (i + 2)) (xs (i + 3))) hM (fun _ _ h => eqA.L h) dL_law_1946 recX11 rfl rfl hm0 rfl ⟨by decide, by decide⟩ (Nat.le_of_ble_eq_true rfl) ⟨by omega, by omega⟩ ⟨_, rfl, fun _ => rfl⟩ (fun ad2 hE2 hC => ?_)
  show AL z x 4 Q _ _ _ _ _ (wX z σ1 ad2 τ1)
  refine al_icmp_eq (tgt := 2151) hC dL_law_1949 rfl (fun _ => ?_) (fun g => absurd rfl g)
  exact kk ad2 (hE1.trans hE2)
theorem dL_law_1954 : decode code 1954 = .ok (.aload_n 1, 1) := by decide +kernel
theorem dL_law_1955 : decode code 1955 = .ok (.aload_n 0, 1) := by decide +kernel
theorem dL_law_1956 : decode code 1956 = .ok (.iload_n 3, 1) := by decide +kernel
theorem dL_law_1957 : decode code 1957 = .ok (.iconst 1, 1) := by decide +kernel
theorem dL_law_1958 : decode code 1958 = .ok (.iadd, 1) := by decide +kernel
theorem dL_law_1959 : decode code 1959 = .ok (.iaload, 1) := by decide +kernel
theorem dL_law_1960 : decode code 1960 = .ok (.aload_n 0, 1) := by decide +kernel
theorem dL_law_1961 : decode code 1961 = .ok (.iload_n 3, 1) := by decide +kernel
theorem dL_law_1962 : decode code 1962 = .ok (.iconst 2, 1) := by decide +kernel
theorem dL_law_1963 : decode code 1963 = .ok (.iadd, 1) := by decide +kernel
theorem dL_law_1964 : decode code 1964 = .ok (.iaload, 1) := by decide +kernel
theorem dL_law_1965 : decode code 1965 = .ok (.invokevirtual 197, 3) := by decide +kernel
theorem dL_law_1968 : decode code 1968 = .ok (.aload_n 2, 1) := by decide +kernel
theorem dL_law_1969 : decode code 1969 = .ok (.aload_n 0, 1) := by decide +kernel
theorem dL_law_1970 : decode code 1970 = .ok (.iload_n 3, 1) := by decide +kernel
theorem dL_law_1971 : decode code 1971 = .ok (.iconst 1, 1) := by decide +kernel
theorem dL_law_1972 : decode code 1972 = .ok (.iadd, 1) := by decide +kernel
theorem dL_law_1973 : decode code 1973 = .ok (.iaload, 1) := by decide +kernel
theorem dL_law_1974 : decode code 1974 = .ok (.aload_n 0, 1) := by decide +kernel
theorem dL_law_1975 : decode code 1975 = .ok (.iload_n 3, 1) := by decide +kernel
theorem dL_law_1976 : decode code 1976 = .ok (.iconst 2, 1) := by decide +kernel
theorem dL_law_1977 : decode code 1977 = .ok (.iadd, 1) := by decide +kernel
theorem dL_law_1978 : decode code 1978 = .ok (.iaload, 1) := by decide +kernel
theorem dL_law_1979 : decode code 1979 = .ok (.invokevirtual 200, 3) := by decide +kernel
theorem dL_law_1982 : decode code 1982 = .ok (.lcmp, 1) := by decide +kernel
theorem dL_law_1983 : decode code 1983 = .ok (.ifCond .eq 168, 3) := by decide +kernel
theorem dL_law_1986 : decode code 1986 = .ok (.iconst 0, 1) := by decide +kernel
theorem dL_law_1987 : decode code 1987 = .ok (.ireturn, 1) := by decide +kernel
set_option maxRecDepth 100000 in
theorem law_c43 {z : ZZ} {x : XX} {Q : State → Prop} {k n : Nat} {ad : Nat → Nat} {b L i x0 m0 : Nat} {xs : Nat → Int32} {σ σ1 : MS} {τ τ1 : XS} {r : Int64} (hC : CX z ad x code RL 4 ret) (hR : x.2.2.1 = room_1) (hX : SX z x b L xs) (hx0 : ad 36 = x0) (hm0 : ad 0 = m0) (hi : i + 4 < L) (hk : k + 7 ≤ 600000 ∧ n + 250 ≤ 7302250) (hW : W_tried τ (xs (i + 1)) (xs (i + 2)) = some (r, τ1)) (hM : M_tried σ (xs (i + 1)) (xs (i + 2)) = some (r, σ1)) (kk : ∀ ad2, exL ad ad2 → AL z x 4 Q (k + 7 + 0) (n + 250 + 0) 2151 [(3, .int (Int32.ofNat i)), (1, .ref x0), (2, .ref m0), (0, .ref b)] [] (wX z σ1 ad2 τ1)) : AL z x 4 Q k n 1954 [(3, .int (Int32.ofNat i)), (1, .ref x0), (2, .ref m0), (0, .ref b)] [] (wX z σ ad τ) := by
  refine al_aload_n (j := 1) hC rfl rfl dL_law_1954 ?_
  refine al_aload_n (j := 3) hC rfl rfl dL_law_1955 ?_
  refine al_iload_n (j := 0) hC rfl rfl dL_law_1956 ?_
  refine al_iconst (v := 1) hC rfl dL_law_1957 ?_
  refine al_iadd hC dL_law_1958 ?_
  refine al_sld (j := i + 1) hC hX (Int32.ofNat_add i 1).symm (by omega) dL_law_1959 ?_
  refine al_aload_n (j := 3) hC rfl rfl dL_law_1960 ?_
  refine al_iload_n (j := 0) hC rfl rfl dL_law_1961 ?_
  refine al_iconst (v := 2) hC rfl dL_law_1962 ?_
  refine al_iadd hC dL_law_1963 ?_
  refine al_sld (j := i + 2) hC hX (Int32.ofNat_add i 2).symm (by omega) dL_law_1964 ?_
  refine al_callL (w := wX z σ) (As := [.int (xs (i + 1)), .int (xs (i + 2))]) (rest := []) (s0 := τ) (s1 := τ1) (r0 := r) (q := 36) hC hR lkl_197 (c_W_tried τ (xs (i + 1)) (xs (i + 2))) hW (fun _ _ h => h.L) dL_law_1965 recX10 rfl rfl hx0 rfl ⟨by decide, by decide⟩ (Nat.le_of_ble_eq_true rfl) ⟨by omega, by omega⟩ ⟨_, rfl, fun _ => rfl⟩ (fun ad1 hE1 hC => ?_)
  have hm0 := (hE1 0 (by omega)).trans hm0
  show AL z x 4 Q (k + 7) (n + 250) _ _ _ (wM z τ1 ad1 σ)
  refine al_aload_n (j := 2) hC rfl rfl dL_law_1968 ?_
  refine al_aload_n (j := 3) hC rfl rfl dL_law_1969 ?_
  refine al_iload_n (j := 0) hC rfl rfl dL_law_1970 ?_
  refine al_iconst (v := 1) hC rfl dL_law_1971 ?_
  refine al_iadd hC dL_law_1972 ?_
  refine al_sld (j := i + 1) hC hX (Int32.ofNat_add i 1).symm (by omega) dL_law_1973 ?_
  refine al_aload_n (j := 3) hC rfl rfl dL_law_1974 ?_
  refine al_iload_n (j := 0) hC rfl rfl dL_law_1975 ?_
  refine al_iconst (v := 2) hC rfl dL_law_1976 ?_
  refine al_iadd hC dL_law_1977 ?_
  refine al_sld (j := i + 2) hC hX (Int32.ofNat_add i 2).symm (by omega) dL_law_1978 ?_
  refine al_callL (w := wM z τ1) (As := [.int (xs (i + 1)), .int (xs (i + 2))]) (rest := [.long r]) (s0 := σ) (s1 := σ1) (r0 := r) (q := 0) hC hR lkl_200 (c_M_tried σ (xs (i + 1)) (xs (i + 2))) hM (fun _ _ h => eqA.L h) dL_law_1979 recX11 rfl rfl hm0 rfl ⟨by decide, by decide⟩ (Nat.le_of_ble_eq_true rfl) ⟨by omega, by omega⟩ ⟨_, rfl, fun _ => rfl⟩ (fun ad2 hE2 hC => ?_)
  show AL z x 4 Q _ _ _ _ _ (wX z σ1 ad2 τ1)
  refine al_lcmp hC dL_law_1982 ?_
  rw [ict_eq]
  refine al_if_eq (tgt := 2151) hC dL_law_1983 rfl (fun _ => ?_) (fun g => absurd rfl g)
  exact kk ad2 (hE1.trans hE2)
theorem dL_law_1988 : decode code 1988 = .ok (.aload_n 1, 1) := by decide +kernel
theorem dL_law_1989 : decode code 1989 = .ok (.aload_n 0, 1) := by decide +kernel
theorem dL_law_1990 : decode code 1990 = .ok (.iload_n 3, 1) := by decide +kernel
theorem dL_law_1991 : decode code 1991 = .ok (.iconst 1, 1) := by decide +kernel
theorem dL_law_1992 : decode code 1992 = .ok (.iadd, 1) := by decide +kernel
theorem dL_law_1993 : decode code 1993 = .ok (.iaload, 1) := by decide +kernel
theorem dL_law_1994 : decode code 1994 = .ok (.aload_n 0, 1) := by decide +kernel
theorem dL_law_1995 : decode code 1995 = .ok (.iload_n 3, 1) := by decide +kernel
theorem dL_law_1996 : decode code 1996 = .ok (.iconst 2, 1) := by decide +kernel
theorem dL_law_1997 : decode code 1997 = .ok (.iadd, 1) := by decide +kernel
theorem dL_law_1998 : decode code 1998 = .ok (.iaload, 1) := by decide +kernel
theorem dL_law_1999 : decode code 1999 = .ok (.aload_n 0, 1) := by decide +kernel
theorem dL_law_2000 : decode code 2000 = .ok (.iload_n 3, 1) := by decide +kernel
theorem dL_law_2001 : decode code 2001 = .ok (.iconst 3, 1) := by decide +kernel
theorem dL_law_2002 : decode code 2002 = .ok (.iadd, 1) := by decide +kernel
theorem dL_law_2003 : decode code 2003 = .ok (.iaload, 1) := by decide +kernel
theorem dL_law_2004 : decode code 2004 = .ok (.i2l, 1) := by decide +kernel
theorem dL_law_2005 : decode code 2005 = .ok (.bipush 32, 2) := by decide +kernel
theorem dL_law_2007 : decode code 2007 = .ok (.lshl, 1) := by decide +kernel
theorem dL_law_2008 : decode code 2008 = .ok (.aload_n 0, 1) := by decide +kernel
theorem dL_law_2009 : decode code 2009 = .ok (.iload_n 3, 1) := by decide +kernel
theorem dL_law_2010 : decode code 2010 = .ok (.iconst 4, 1) := by decide +kernel
theorem dL_law_2011 : decode code 2011 = .ok (.iadd, 1) := by decide +kernel
theorem dL_law_2012 : decode code 2012 = .ok (.iaload, 1) := by decide +kernel
theorem dL_law_2013 : decode code 2013 = .ok (.i2l, 1) := by decide +kernel
theorem dL_law_2014 : decode code 2014 = .ok (.ldc2_w 74, 3) := by decide +kernel
theorem dL_law_2017 : decode code 2017 = .ok (.land, 1) := by decide +kernel
theorem dL_law_2018 : decode code 2018 = .ok (.lor, 1) := by decide +kernel
theorem dL_law_2019 : decode code 2019 = .ok (.invokevirtual 201, 3) := by decide +kernel
theorem dL_law_2022 : decode code 2022 = .ok (.aload_n 2, 1) := by decide +kernel
theorem dL_law_2023 : decode code 2023 = .ok (.aload_n 0, 1) := by decide +kernel
theorem dL_law_2024 : decode code 2024 = .ok (.iload_n 3, 1) := by decide +kernel
theorem dL_law_2025 : decode code 2025 = .ok (.iconst 1, 1) := by decide +kernel
theorem dL_law_2026 : decode code 2026 = .ok (.iadd, 1) := by decide +kernel
theorem dL_law_2027 : decode code 2027 = .ok (.iaload, 1) := by decide +kernel
theorem dL_law_2028 : decode code 2028 = .ok (.aload_n 0, 1) := by decide +kernel
theorem dL_law_2029 : decode code 2029 = .ok (.iload_n 3, 1) := by decide +kernel
theorem dL_law_2030 : decode code 2030 = .ok (.iconst 2, 1) := by decide +kernel
theorem dL_law_2031 : decode code 2031 = .ok (.iadd, 1) := by decide +kernel
theorem dL_law_2032 : decode code 2032 = .ok (.iaload, 1) := by decide +kernel
theorem dL_law_2033 : decode code 2033 = .ok (.aload_n 0, 1) := by decide +kernel
theorem dL_law_2034 : decode code 2034 = .ok (.iload_n 3, 1) := by decide +kernel
theorem dL_law_2035 : decode code 2035 = .ok (.iconst 3, 1) := by decide +kernel
theorem dL_law_2036 : decode code 2036 = .ok (.iadd, 1) := by decide +kernel
theorem dL_law_2037 : decode code 2037 = .ok (.iaload, 1) := by decide +kernel
theorem dL_law_2038 : decode code 2038 = .ok (.i2l, 1) := by decide +kernel
theorem dL_law_2039 : decode code 2039 = .ok (.bipush 32, 2) := by decide +kernel
theorem dL_law_2041 : decode code 2041 = .ok (.lshl, 1) := by decide +kernel
theorem dL_law_2042 : decode code 2042 = .ok (.aload_n 0, 1) := by decide +kernel
theorem dL_law_2043 : decode code 2043 = .ok (.iload_n 3, 1) := by decide +kernel
theorem dL_law_2044 : decode code 2044 = .ok (.iconst 4, 1) := by decide +kernel
theorem dL_law_2045 : decode code 2045 = .ok (.iadd, 1) := by decide +kernel
theorem dL_law_2046 : decode code 2046 = .ok (.iaload, 1) := by decide +kernel
theorem dL_law_2047 : decode code 2047 = .ok (.i2l, 1) := by decide +kernel
theorem dL_law_2048 : decode code 2048 = .ok (.ldc2_w 74, 3) := by decide +kernel
theorem dL_law_2051 : decode code 2051 = .ok (.land, 1) := by decide +kernel
theorem dL_law_2052 : decode code 2052 = .ok (.lor, 1) := by decide +kernel
theorem dL_law_2053 : decode code 2053 = .ok (.invokevirtual 205, 3) := by decide +kernel
theorem dL_law_2056 : decode code 2056 = .ok (.lcmp, 1) := by decide +kernel
theorem dL_law_2057 : decode code 2057 = .ok (.ifCond .eq 94, 3) := by decide +kernel
theorem dL_law_2060 : decode code 2060 = .ok (.iconst 0, 1) := by decide +kernel
theorem dL_law_2061 : decode code 2061 = .ok (.ireturn, 1) := by decide +kernel
set_option maxRecDepth 100000 in
theorem law_c44 {z : ZZ} {x : XX} {Q : State → Prop} {k n : Nat} {ad : Nat → Nat} {b L i x0 m0 : Nat} {xs : Nat → Int32} {σ σ1 : MS} {τ τ1 : XS} {r : Int64} (hC : CX z ad x code RL 4 ret) (hR : x.2.2.1 = room_1) (hX : SX z x b L xs) (hx0 : ad 36 = x0) (hm0 : ad 0 = m0) (hi : i + 4 < L) (hk : k + 0 ≤ 600000 ∧ n + 0 ≤ 7302250) (hW : W_told τ (xs (i + 1)) (xs (i + 2)) ((((xs (i + 3))).toInt64 <<< ((32 : Int32).toInt64 &&& 63)) ||| (((xs (i + 4))).toInt64 &&& (4294967295))) = some (r, τ1)) (hM : M_told σ (xs (i + 1)) (xs (i + 2)) ((((xs (i + 3))).toInt64 <<< ((32 : Int32).toInt64 &&& 63)) ||| (((xs (i + 4))).toInt64 &&& (4294967295))) = some (r, σ1)) (kk : ∀ ad2, exL ad ad2 → AL z x 4 Q (k + 0 + 0) (n + 0 + 0) 2151 [(3, .int (Int32.ofNat i)), (1, .ref x0), (2, .ref m0), (0, .ref b)] [] (wX z σ1 ad2 τ1)) : AL z x 4 Q k n 1988 [(3, .int (Int32.ofNat i)), (1, .ref x0), (2, .ref m0), (0, .ref b)] [] (wX z σ ad τ) := by
  refine al_aload_n (j := 1) hC rfl rfl dL_law_1988 ?_
  refine al_aload_n (j := 3) hC rfl rfl dL_law_1989 ?_
  refine al_iload_n (j := 0) hC rfl rfl dL_law_1990 ?_
  refine al_iconst (v := 1) hC rfl dL_law_1991 ?_
  refine al_iadd hC dL_law_1992 ?_
  refine al_sld (j := i + 1) hC hX (Int32.ofNat_add i 1).symm (by omega) dL_law_1993 ?_
  refine al_aload_n (j := 3) hC rfl rfl dL_law_1994 ?_
  refine al_iload_n (j := 0) hC rfl rfl dL_law_1995 ?_
  refine al_iconst (v := 2) hC rfl dL_law_1996 ?_
  refine al_iadd hC dL_law_1997 ?_
  refine al_sld (j := i + 2) hC hX (Int32.ofNat_add i 2).symm (by omega) dL_law_1998 ?_
  refine al_aload_n (j := 3) hC rfl rfl dL_law_1999 ?_
  refine al_iload_n (j := 0) hC rfl rfl dL_law_2000 ?_
  refine al_iconst (v := 3) hC rfl dL_law_2001 ?_
  refine al_iadd hC dL_law_2002 ?_
  refine al_sld (j := i + 3) hC hX (Int32.ofNat_add i 3).symm (by omega) dL_law_2003 ?_
  refine al_i2l hC dL_law_2004 ?_
  refine al_bipush (v := 32) hC rfl dL_law_2005 ?_
  refine al_lshl hC dL_law_2007 ?_
  refine al_aload_n (j := 3) hC rfl rfl dL_law_2008 ?_
  refine al_iload_n (j := 0) hC rfl rfl dL_law_2009 ?_
  refine al_iconst (v := 4) hC rfl dL_law_2010 ?_
  refine al_iadd hC dL_law_2011 ?_
  refine al_sld (j := i + 4) hC hX (Int32.ofNat_add i 4).symm (by omega) dL_law_2012 ?_
  refine al_i2l hC dL_law_2013 ?_
  refine al_ldc2 hC kl_L_74 dL_law_2014 ?_
  refine al_land hC dL_law_2017 ?_
  refine al_lor hC dL_law_2018 ?_
  refine al_callL (w := wX z σ) (As := [.int (xs (i + 1)), .int (xs (i + 2)), .long ((((xs (i + 3))).toInt64 <<< ((32 : Int32).toInt64 &&& 63)) ||| (((xs (i + 4))).toInt64 &&& (4294967295)))]) (rest := []) (s0 := τ) (s1 := τ1) (r0 := r) (q := 36) hC hR lkl_201 (c_W_told τ (xs (i + 1)) (xs (i + 2)) ((((xs (i + 3))).toInt64 <<< ((32 : Int32).toInt64 &&& 63)) ||| (((xs (i + 4))).toInt64 &&& (4294967295)))) hW (fun _ _ h => eqA.L h) dL_law_2019 recX10 rfl rfl hx0 rfl ⟨by decide, by decide⟩ (Nat.le_of_ble_eq_true rfl) ⟨by omega, by omega⟩ ⟨_, rfl, fun _ => rfl⟩ (fun ad1 hE1 hC => ?_)
  have hm0 := (hE1 0 (by omega)).trans hm0
  show AL z x 4 Q (k + 0) (n + 0) _ _ _ (wM z τ1 ad1 σ)
  refine al_aload_n (j := 2) hC rfl rfl dL_law_2022 ?_
  refine al_aload_n (j := 3) hC rfl rfl dL_law_2023 ?_
  refine al_iload_n (j := 0) hC rfl rfl dL_law_2024 ?_
  refine al_iconst (v := 1) hC rfl dL_law_2025 ?_
  refine al_iadd hC dL_law_2026 ?_
  refine al_sld (j := i + 1) hC hX (Int32.ofNat_add i 1).symm (by omega) dL_law_2027 ?_
  refine al_aload_n (j := 3) hC rfl rfl dL_law_2028 ?_
  refine al_iload_n (j := 0) hC rfl rfl dL_law_2029 ?_
  refine al_iconst (v := 2) hC rfl dL_law_2030 ?_
  refine al_iadd hC dL_law_2031 ?_
  refine al_sld (j := i + 2) hC hX (Int32.ofNat_add i 2).symm (by omega) dL_law_2032 ?_
  refine al_aload_n (j := 3) hC rfl rfl dL_law_2033 ?_
  refine al_iload_n (j := 0) hC rfl rfl dL_law_2034 ?_
  refine al_iconst (v := 3) hC rfl dL_law_2035 ?_
  refine al_iadd hC dL_law_2036 ?_
  refine al_sld (j := i + 3) hC hX (Int32.ofNat_add i 3).symm (by omega) dL_law_2037 ?_
  refine al_i2l hC dL_law_2038 ?_
  refine al_bipush (v := 32) hC rfl dL_law_2039 ?_
  refine al_lshl hC dL_law_2041 ?_
  refine al_aload_n (j := 3) hC rfl rfl dL_law_2042 ?_
  refine al_iload_n (j := 0) hC rfl rfl dL_law_2043 ?_
  refine al_iconst (v := 4) hC rfl dL_law_2044 ?_
  refine al_iadd hC dL_law_2045 ?_
  refine al_sld (j := i + 4) hC hX (Int32.ofNat_add i 4).symm (by omega) dL_law_2046 ?_
  refine al_i2l hC dL_law_2047 ?_
  refine al_ldc2 hC kl_L_74 dL_law_2048 ?_
  refine al_land hC dL_law_2051 ?_
  refine al_lor hC dL_law_2052 ?_
  refine al_callL (w := wM z τ1) (As := [.int (xs (i + 1)), .int (xs (i + 2)), .long ((((xs (i + 3))).toInt64 <<< ((32 : Int32).toInt64 &&& 63)) ||| (((xs (i + 4))).toInt64 &&& (4294967295)))]) (rest := [.long r]) (s0 := σ) (s1 := σ1) (r0 := r) (q := 0) hC hR lkl_205 (c_M_told σ (xs (i + 1)) (xs (i + 2)) ((((xs (i + 3))).toInt64 <<< ((32 : Int32).toInt64 &&& 63)) ||| (((xs (i + 4))).toInt64 &&& (4294967295)))) hM (fun _ _ h => eqA.L h) dL_law_2053 recX11 rfl rfl hm0 rfl ⟨by decide, by decide⟩ (Nat.le_of_ble_eq_true rfl) ⟨by omega, by omega⟩ ⟨_, rfl, fun _ => rfl⟩ (fun ad2 hE2 hC => ?_)
  show AL z x 4 Q _ _ _ _ _ (wX z σ1 ad2 τ1)
  refine al_lcmp hC dL_law_2056 ?_
  rw [ict_eq]
  refine al_if_eq (tgt := 2151) hC dL_law_2057 rfl (fun _ => ?_) (fun g => absurd rfl g)
  exact kk ad2 (hE1.trans hE2)
theorem dL_law_2062 : decode code 2062 = .ok (.aload_n 1, 1) := by decide +kernel
theorem dL_law_2063 : decode code 2063 = .ok (.aload_n 0, 1) := by decide +kernel
theorem dL_law_2064 : decode code 2064 = .ok (.iload_n 3, 1) := by decide +kernel
theorem dL_law_2065 : decode code 2065 = .ok (.iconst 1, 1) := by decide +kernel
theorem dL_law_2066 : decode code 2066 = .ok (.iadd, 1) := by decide +kernel
theorem dL_law_2067 : decode code 2067 = .ok (.iaload, 1) := by decide +kernel
theorem dL_law_2068 : decode code 2068 = .ok (.aload_n 0, 1) := by decide +kernel
theorem dL_law_2069 : decode code 2069 = .ok (.iload_n 3, 1) := by decide +kernel
theorem dL_law_2070 : decode code 2070 = .ok (.iconst 2, 1) := by decide +kernel
theorem dL_law_2071 : decode code 2071 = .ok (.iadd, 1) := by decide +kernel
theorem dL_law_2072 : decode code 2072 = .ok (.iaload, 1) := by decide +kernel
theorem dL_law_2073 : decode code 2073 = .ok (.invokevirtual 206, 3) := by decide +kernel
theorem dL_law_2076 : decode code 2076 = .ok (.aload_n 2, 1) := by decide +kernel
theorem dL_law_2077 : decode code 2077 = .ok (.aload_n 0, 1) := by decide +kernel
theorem dL_law_2078 : decode code 2078 = .ok (.iload_n 3, 1) := by decide +kernel
theorem dL_law_2079 : decode code 2079 = .ok (.iconst 1, 1) := by decide +kernel
theorem dL_law_2080 : decode code 2080 = .ok (.iadd, 1) := by decide +kernel
theorem dL_law_2081 : decode code 2081 = .ok (.iaload, 1) := by decide +kernel
theorem dL_law_2082 : decode code 2082 = .ok (.aload_n 0, 1) := by decide +kernel
theorem dL_law_2083 : decode code 2083 = .ok (.iload_n 3, 1) := by decide +kernel
theorem dL_law_2084 : decode code 2084 = .ok (.iconst 2, 1) := by decide +kernel
theorem dL_law_2085 : decode code 2085 = .ok (.iadd, 1) := by decide +kernel
theorem dL_law_2086 : decode code 2086 = .ok (.iaload, 1) := by decide +kernel
theorem dL_law_2087 : decode code 2087 = .ok (.invokevirtual 209, 3) := by decide +kernel
theorem dL_law_2090 : decode code 2090 = .ok (.if_icmp .eq 61, 3) := by decide +kernel
theorem dL_law_2093 : decode code 2093 = .ok (.iconst 0, 1) := by decide +kernel
theorem dL_law_2094 : decode code 2094 = .ok (.ireturn, 1) := by decide +kernel
set_option maxRecDepth 100000 in
theorem law_c45 {z : ZZ} {x : XX} {Q : State → Prop} {k n : Nat} {ad : Nat → Nat} {b L i x0 m0 : Nat} {xs : Nat → Int32} {σ σ1 : MS} {τ τ1 : XS} {r : Int32} (hC : CX z ad x code RL 4 ret) (hR : x.2.2.1 = room_1) (hX : SX z x b L xs) (hx0 : ad 36 = x0) (hm0 : ad 0 = m0) (hi : i + 4 < L) (hk : k + 0 ≤ 600000 ∧ n + 0 ≤ 7302250) (hW : W_check τ (xs (i + 1)) (xs (i + 2)) = some (r, τ1)) (hM : M_check σ (xs (i + 1)) (xs (i + 2)) = some (r, σ1)) (kk : ∀ ad2, exL ad ad2 → AL z x 4 Q (k + 0 + 0) (n + 0 + 0) 2151 [(3, .int (Int32.ofNat i)), (1, .ref x0), (2, .ref m0), (0, .ref b)] [] (wX z σ1 ad2 τ1)) : AL z x 4 Q k n 2062 [(3, .int (Int32.ofNat i)), (1, .ref x0), (2, .ref m0), (0, .ref b)] [] (wX z σ ad τ) := by
  refine al_aload_n (j := 1) hC rfl rfl dL_law_2062 ?_
  refine al_aload_n (j := 3) hC rfl rfl dL_law_2063 ?_
  refine al_iload_n (j := 0) hC rfl rfl dL_law_2064 ?_
  refine al_iconst (v := 1) hC rfl dL_law_2065 ?_
  refine al_iadd hC dL_law_2066 ?_
  refine al_sld (j := i + 1) hC hX (Int32.ofNat_add i 1).symm (by omega) dL_law_2067 ?_
  refine al_aload_n (j := 3) hC rfl rfl dL_law_2068 ?_
  refine al_iload_n (j := 0) hC rfl rfl dL_law_2069 ?_
  refine al_iconst (v := 2) hC rfl dL_law_2070 ?_
  refine al_iadd hC dL_law_2071 ?_
  refine al_sld (j := i + 2) hC hX (Int32.ofNat_add i 2).symm (by omega) dL_law_2072 ?_
  refine al_callL (w := wX z σ) (As := [.int (xs (i + 1)), .int (xs (i + 2))]) (rest := []) (s0 := τ) (s1 := τ1) (r0 := r) (q := 36) hC hR lkl_206 (c_W_check τ (xs (i + 1)) (xs (i + 2))) hW (fun _ _ h => eqA.L h) dL_law_2073 recX10 rfl rfl hx0 rfl ⟨by decide, by decide⟩ (Nat.le_of_ble_eq_true rfl) ⟨by omega, by omega⟩ ⟨_, rfl, fun _ => rfl⟩ (fun ad1 hE1 hC => ?_)
  have hm0 := (hE1 0 (by omega)).trans hm0
  show AL z x 4 Q (k + 0) (n + 0) _ _ _ (wM z τ1 ad1 σ)
  refine al_aload_n (j := 2) hC rfl rfl dL_law_2076 ?_
  refine al_aload_n (j := 3) hC rfl rfl dL_law_2077 ?_
  refine al_iload_n (j := 0) hC rfl rfl dL_law_2078 ?_
  refine al_iconst (v := 1) hC rfl dL_law_2079 ?_
  refine al_iadd hC dL_law_2080 ?_
  refine al_sld (j := i + 1) hC hX (Int32.ofNat_add i 1).symm (by omega) dL_law_2081 ?_
  refine al_aload_n (j := 3) hC rfl rfl dL_law_2082 ?_
  refine al_iload_n (j := 0) hC rfl rfl dL_law_2083 ?_
  refine al_iconst (v := 2) hC rfl dL_law_2084 ?_
  refine al_iadd hC dL_law_2085 ?_
  refine al_sld (j := i + 2) hC hX (Int32.ofNat_add i 2).symm (by omega) dL_law_2086 ?_
  refine al_callL (w := wM z τ1) (As := [.int (xs (i + 1)), .int (xs (i + 2))]) (rest := [.int r]) (s0 := σ) (s1 := σ1) (r0 := r) (q := 0) hC hR lkl_209 (c_M_check σ (xs (i + 1)) (xs (i + 2))) hM (fun _ _ h => eqA.L h) dL_law_2087 recX11 rfl rfl hm0 rfl ⟨by decide, by decide⟩ (Nat.le_of_ble_eq_true rfl) ⟨by omega, by omega⟩ ⟨_, rfl, fun _ => rfl⟩ (fun ad2 hE2 hC => ?_)
  show AL z x 4 Q _ _ _ _ _ (wX z σ1 ad2 τ1)
  refine al_icmp_eq (tgt := 2151) hC dL_law_2090 rfl (fun _ => ?_) (fun g => absurd rfl g)
  exact kk ad2 (hE1.trans hE2)
theorem dL_law_2095 : decode code 2095 = .ok (.aload_n 1, 1) := by decide +kernel
theorem dL_law_2096 : decode code 2096 = .ok (.aload_n 0, 1) := by decide +kernel
theorem dL_law_2097 : decode code 2097 = .ok (.iload_n 3, 1) := by decide +kernel
theorem dL_law_2098 : decode code 2098 = .ok (.iconst 1, 1) := by decide +kernel
theorem dL_law_2099 : decode code 2099 = .ok (.iadd, 1) := by decide +kernel
theorem dL_law_2100 : decode code 2100 = .ok (.iaload, 1) := by decide +kernel
theorem dL_law_2101 : decode code 2101 = .ok (.aload_n 0, 1) := by decide +kernel
theorem dL_law_2102 : decode code 2102 = .ok (.iload_n 3, 1) := by decide +kernel
theorem dL_law_2103 : decode code 2103 = .ok (.iconst 2, 1) := by decide +kernel
theorem dL_law_2104 : decode code 2104 = .ok (.iadd, 1) := by decide +kernel
theorem dL_law_2105 : decode code 2105 = .ok (.iaload, 1) := by decide +kernel
theorem dL_law_2106 : decode code 2106 = .ok (.invokevirtual 210, 3) := by decide +kernel
theorem dL_law_2109 : decode code 2109 = .ok (.aload_n 2, 1) := by decide +kernel
theorem dL_law_2110 : decode code 2110 = .ok (.aload_n 0, 1) := by decide +kernel
theorem dL_law_2111 : decode code 2111 = .ok (.iload_n 3, 1) := by decide +kernel
theorem dL_law_2112 : decode code 2112 = .ok (.iconst 1, 1) := by decide +kernel
theorem dL_law_2113 : decode code 2113 = .ok (.iadd, 1) := by decide +kernel
theorem dL_law_2114 : decode code 2114 = .ok (.iaload, 1) := by decide +kernel
theorem dL_law_2115 : decode code 2115 = .ok (.aload_n 0, 1) := by decide +kernel
theorem dL_law_2116 : decode code 2116 = .ok (.iload_n 3, 1) := by decide +kernel
theorem dL_law_2117 : decode code 2117 = .ok (.iconst 2, 1) := by decide +kernel
theorem dL_law_2118 : decode code 2118 = .ok (.iadd, 1) := by decide +kernel
theorem dL_law_2119 : decode code 2119 = .ok (.iaload, 1) := by decide +kernel
theorem dL_law_2120 : decode code 2120 = .ok (.invokevirtual 213, 3) := by decide +kernel
theorem dL_law_2123 : decode code 2123 = .ok (.if_icmp .eq 28, 3) := by decide +kernel
theorem dL_law_2126 : decode code 2126 = .ok (.iconst 0, 1) := by decide +kernel
theorem dL_law_2127 : decode code 2127 = .ok (.ireturn, 1) := by decide +kernel
set_option maxRecDepth 100000 in
theorem law_c46 {z : ZZ} {x : XX} {Q : State → Prop} {k n : Nat} {ad : Nat → Nat} {b L i x0 m0 : Nat} {xs : Nat → Int32} {σ σ1 : MS} {τ τ1 : XS} {r : Int32} (hC : CX z ad x code RL 4 ret) (hR : x.2.2.1 = room_1) (hX : SX z x b L xs) (hx0 : ad 36 = x0) (hm0 : ad 0 = m0) (hi : i + 4 < L) (hk : k + 0 ≤ 600000 ∧ n + 0 ≤ 7302250) (hW : W_judge τ (xs (i + 1)) (xs (i + 2)) = some (r, τ1)) (hM : M_judge σ (xs (i + 1)) (xs (i + 2)) = some (r, σ1)) (kk : ∀ ad2, exL ad ad2 → AL z x 4 Q (k + 0 + 0) (n + 0 + 0) 2151 [(3, .int (Int32.ofNat i)), (1, .ref x0), (2, .ref m0), (0, .ref b)] [] (wX z σ1 ad2 τ1)) : AL z x 4 Q k n 2095 [(3, .int (Int32.ofNat i)), (1, .ref x0), (2, .ref m0), (0, .ref b)] [] (wX z σ ad τ) := by
  refine al_aload_n (j := 1) hC rfl rfl dL_law_2095 ?_
  refine al_aload_n (j := 3) hC rfl rfl dL_law_2096 ?_
  refine al_iload_n (j := 0) hC rfl rfl dL_law_2097 ?_
  refine al_iconst (v := 1) hC rfl dL_law_2098 ?_
  refine al_iadd hC dL_law_2099 ?_
  refine al_sld (j := i + 1) hC hX (Int32.ofNat_add i 1).symm (by omega) dL_law_2100 ?_
  refine al_aload_n (j := 3) hC rfl rfl dL_law_2101 ?_
  refine al_iload_n (j := 0) hC rfl rfl dL_law_2102 ?_
  refine al_iconst (v := 2) hC rfl dL_law_2103 ?_
  refine al_iadd hC dL_law_2104 ?_
  refine al_sld (j := i + 2) hC hX (Int32.ofNat_add i 2).symm (by omega) dL_law_2105 ?_
  refine al_callL (w := wX z σ) (As := [.int (xs (i + 1)), .int (xs (i + 2))]) (rest := []) (s0 := τ) (s1 := τ1) (r0 := r) (q := 36) hC hR lkl_210 (c_W_judge τ (xs (i + 1)) (xs (i + 2))) hW (fun _ _ h => eqA.L h) dL_law_2106 recX10 rfl rfl hx0 rfl ⟨by decide, by decide⟩ (Nat.le_of_ble_eq_true rfl) ⟨by omega, by omega⟩ ⟨_, rfl, fun _ => rfl⟩ (fun ad1 hE1 hC => ?_)
  have hm0 := (hE1 0 (by omega)).trans hm0
  show AL z x 4 Q (k + 0) (n + 0) _ _ _ (wM z τ1 ad1 σ)
  refine al_aload_n (j := 2) hC rfl rfl dL_law_2109 ?_
  refine al_aload_n (j := 3) hC rfl rfl dL_law_2110 ?_
  refine al_iload_n (j := 0) hC rfl rfl dL_law_2111 ?_
  refine al_iconst (v := 1) hC rfl dL_law_2112 ?_
  refine al_iadd hC dL_law_2113 ?_
  refine al_sld (j := i + 1) hC hX (Int32.ofNat_add i 1).symm (by omega) dL_law_2114 ?_
  refine al_aload_n (j := 3) hC rfl rfl dL_law_2115 ?_
  refine al_iload_n (j := 0) hC rfl rfl dL_law_2116 ?_
  refine al_iconst (v := 2) hC rfl dL_law_2117 ?_
  refine al_iadd hC dL_law_2118 ?_
  refine al_sld (j := i + 2) hC hX (Int32.ofNat_add i 2).symm (by omega) dL_law_2119 ?_
  refine al_callL (w := wM z τ1) (As := [.int (xs (i + 1)), .int (xs (i + 2))]) (rest := [.int r]) (s0 := σ) (s1 := σ1) (r0 := r) (q := 0) hC hR lkl_213 (c_M_judge σ (xs (i + 1)) (xs (i + 2))) hM (fun _ _ h => eqA.L h) dL_law_2120 recX11 rfl rfl hm0 rfl ⟨by decide, by decide⟩ (Nat.le_of_ble_eq_true rfl) ⟨by omega, by omega⟩ ⟨_, rfl, fun _ => rfl⟩ (fun ad2 hE2 hC => ?_)
  show AL z x 4 Q _ _ _ _ _ (wX z σ1 ad2 τ1)
  refine al_icmp_eq (tgt := 2151) hC dL_law_2123 rfl (fun _ => ?_) (fun g => absurd rfl g)
  exact kk ad2 (hE1.trans hE2)
theorem dL_law_2128 : decode code 2128 = .ok (.aload_n 1, 1) := by decide +kernel
theorem dL_law_2129 : decode code 2129 = .ok (.aload_n 0, 1) := by decide +kernel
theorem dL_law_2130 : decode code 2130 = .ok (.iload_n 3, 1) := by decide +kernel
theorem dL_law_2131 : decode code 2131 = .ok (.iconst 1, 1) := by decide +kernel
theorem dL_law_2132 : decode code 2132 = .ok (.iadd, 1) := by decide +kernel
theorem dL_law_2133 : decode code 2133 = .ok (.iaload, 1) := by decide +kernel
theorem dL_law_2134 : decode code 2134 = .ok (.invokevirtual 214, 3) := by decide +kernel
theorem dL_law_2137 : decode code 2137 = .ok (.aload_n 2, 1) := by decide +kernel
theorem dL_law_2138 : decode code 2138 = .ok (.aload_n 0, 1) := by decide +kernel
theorem dL_law_2139 : decode code 2139 = .ok (.iload_n 3, 1) := by decide +kernel
theorem dL_law_2140 : decode code 2140 = .ok (.iconst 1, 1) := by decide +kernel
theorem dL_law_2141 : decode code 2141 = .ok (.iadd, 1) := by decide +kernel
theorem dL_law_2142 : decode code 2142 = .ok (.iaload, 1) := by decide +kernel
theorem dL_law_2143 : decode code 2143 = .ok (.invokevirtual 217, 3) := by decide +kernel
theorem dL_law_2146 : decode code 2146 = .ok (.if_icmp .eq 5, 3) := by decide +kernel
theorem dL_law_2149 : decode code 2149 = .ok (.iconst 0, 1) := by decide +kernel
theorem dL_law_2150 : decode code 2150 = .ok (.ireturn, 1) := by decide +kernel
set_option maxRecDepth 100000 in
theorem law_c47 {z : ZZ} {x : XX} {Q : State → Prop} {k n : Nat} {ad : Nat → Nat} {b L i x0 m0 : Nat} {xs : Nat → Int32} {σ σ1 : MS} {τ τ1 : XS} {r : Int32} (hC : CX z ad x code RL 4 ret) (hR : x.2.2.1 = room_1) (hX : SX z x b L xs) (hx0 : ad 36 = x0) (hm0 : ad 0 = m0) (hi : i + 4 < L) (hk : k + 0 ≤ 600000 ∧ n + 0 ≤ 7302250) (eτ : τ = τ1) (eσ : σ = σ1) (hW : W_count τ (xs (i + 1)) = some r) (hM : M_count σ (xs (i + 1)) = some r) (kk : ∀ ad2, exL ad ad2 → AL z x 4 Q (k + 0 + 0) (n + 0 + 0) 2151 [(3, .int (Int32.ofNat i)), (1, .ref x0), (2, .ref m0), (0, .ref b)] [] (wX z σ1 ad2 τ1)) : AL z x 4 Q k n 2128 [(3, .int (Int32.ofNat i)), (1, .ref x0), (2, .ref m0), (0, .ref b)] [] (wX z σ ad τ) := by
  subst eτ
  subst eσ
  refine al_aload_n (j := 1) hC rfl rfl dL_law_2128 ?_
  refine al_aload_n (j := 3) hC rfl rfl dL_law_2129 ?_
  refine al_iload_n (j := 0) hC rfl rfl dL_law_2130 ?_
  refine al_iconst (v := 1) hC rfl dL_law_2131 ?_
  refine al_iadd hC dL_law_2132 ?_
  refine al_sld (j := i + 1) hC hX (Int32.ofNat_add i 1).symm (by omega) dL_law_2133 ?_
  refine al_callL (w := wX z σ) (As := [.int (xs (i + 1))]) (rest := []) (s0 := τ) (s1 := τ) (r0 := r) (q := 36) hC hR lkl_214 (c_W_count τ (xs (i + 1))) (by rw [hW]; rfl) (fun _ _ h => eqA.L h) dL_law_2134 recX10 rfl rfl hx0 rfl ⟨by decide, by decide⟩ (Nat.le_of_ble_eq_true rfl) ⟨by omega, by omega⟩ ⟨_, rfl, fun _ => rfl⟩ (fun ad1 hE1 hC => ?_)
  have hm0 := (hE1 0 (by omega)).trans hm0
  show AL z x 4 Q (k + 0) (n + 0) _ _ _ (wM z τ ad1 σ)
  refine al_aload_n (j := 2) hC rfl rfl dL_law_2137 ?_
  refine al_aload_n (j := 3) hC rfl rfl dL_law_2138 ?_
  refine al_iload_n (j := 0) hC rfl rfl dL_law_2139 ?_
  refine al_iconst (v := 1) hC rfl dL_law_2140 ?_
  refine al_iadd hC dL_law_2141 ?_
  refine al_sld (j := i + 1) hC hX (Int32.ofNat_add i 1).symm (by omega) dL_law_2142 ?_
  refine al_callL (w := wM z τ) (As := [.int (xs (i + 1))]) (rest := [.int r]) (s0 := σ) (s1 := σ) (r0 := r) (q := 0) hC hR lkl_217 (c_M_count σ (xs (i + 1))) (by rw [hM]; rfl) (fun _ _ h => eqA.L h) dL_law_2143 recX11 rfl rfl hm0 rfl ⟨by decide, by decide⟩ (Nat.le_of_ble_eq_true rfl) ⟨by omega, by omega⟩ ⟨_, rfl, fun _ => rfl⟩ (fun ad2 hE2 hC => ?_)
  show AL z x 4 Q _ _ _ _ _ (wX z σ ad2 τ)
  refine al_icmp_eq (tgt := 2151) hC dL_law_2146 rfl (fun _ => ?_) (fun g => absurd rfl g)
  exact kk ad2 (hE1.trans hE2)
