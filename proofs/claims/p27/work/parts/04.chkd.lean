theorem jm_okc255 : jm_xc 255 = true := jm_xw 255 (by decide +kernel)
