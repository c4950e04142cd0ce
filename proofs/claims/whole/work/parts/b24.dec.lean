/-! ## the law: decode rows (printed by gen_law.py) -/
theorem dl_1626 : decode code 1626 = .ok (.iload_n 3, 1) := by decide +kernel
theorem dl_1627 : decode code 1627 = .ok (.iconst 1, 1) := by decide +kernel
theorem dl_1628 : decode code 1628 = .ok (.iadd, 1) := by decide +kernel
theorem dl_1629 : decode code 1629 = .ok (.iaload, 1) := by decide +kernel
theorem dl_1630 : decode code 1630 = .ok (.aload_n 0, 1) := by decide +kernel
theorem dl_1631 : decode code 1631 = .ok (.iload_n 3, 1) := by decide +kernel
theorem dl_1632 : decode code 1632 = .ok (.iconst 2, 1) := by decide +kernel
theorem dl_1633 : decode code 1633 = .ok (.iadd, 1) := by decide +kernel
theorem dl_1634 : decode code 1634 = .ok (.iaload, 1) := by decide +kernel
theorem dl_1635 : decode code 1635 = .ok (.aload_n 0, 1) := by decide +kernel
theorem dl_1636 : decode code 1636 = .ok (.iload_n 3, 1) := by decide +kernel
theorem dl_1637 : decode code 1637 = .ok (.iconst 3, 1) := by decide +kernel
theorem dl_1638 : decode code 1638 = .ok (.iadd, 1) := by decide +kernel
theorem dl_1639 : decode code 1639 = .ok (.iaload, 1) := by decide +kernel
theorem dl_1640 : decode code 1640 = .ok (.invokevirtual 187, 3) := by decide +kernel
theorem dl_1643 : decode code 1643 = .ok (.aload_n 2, 1) := by decide +kernel
theorem dl_1644 : decode code 1644 = .ok (.aload_n 0, 1) := by decide +kernel
theorem dl_1645 : decode code 1645 = .ok (.iload_n 3, 1) := by decide +kernel
theorem dl_1646 : decode code 1646 = .ok (.iconst 1, 1) := by decide +kernel
theorem dl_1647 : decode code 1647 = .ok (.iadd, 1) := by decide +kernel
theorem dl_1648 : decode code 1648 = .ok (.iaload, 1) := by decide +kernel
theorem dl_1649 : decode code 1649 = .ok (.aload_n 0, 1) := by decide +kernel
theorem dl_1650 : decode code 1650 = .ok (.iload_n 3, 1) := by decide +kernel
theorem dl_1651 : decode code 1651 = .ok (.iconst 2, 1) := by decide +kernel
theorem dl_1652 : decode code 1652 = .ok (.iadd, 1) := by decide +kernel
theorem dl_1653 : decode code 1653 = .ok (.iaload, 1) := by decide +kernel
theorem dl_1654 : decode code 1654 = .ok (.aload_n 0, 1) := by decide +kernel
theorem dl_1655 : decode code 1655 = .ok (.iload_n 3, 1) := by decide +kernel
theorem dl_1656 : decode code 1656 = .ok (.iconst 3, 1) := by decide +kernel
theorem dl_1657 : decode code 1657 = .ok (.iadd, 1) := by decide +kernel
theorem dl_1658 : decode code 1658 = .ok (.iaload, 1) := by decide +kernel
theorem dl_1659 : decode code 1659 = .ok (.invokevirtual 190, 3) := by decide +kernel
theorem dl_1662 : decode code 1662 = .ok (.if_icmp .eq 472, 3) := by decide +kernel
theorem dl_1667 : decode code 1667 = .ok (.aload_n 1, 1) := by decide +kernel
theorem dl_1668 : decode code 1668 = .ok (.aload_n 0, 1) := by decide +kernel
theorem dl_1669 : decode code 1669 = .ok (.iload_n 3, 1) := by decide +kernel
theorem dl_1670 : decode code 1670 = .ok (.iconst 1, 1) := by decide +kernel
theorem dl_1671 : decode code 1671 = .ok (.iadd, 1) := by decide +kernel
theorem dl_1672 : decode code 1672 = .ok (.iaload, 1) := by decide +kernel
theorem dl_1673 : decode code 1673 = .ok (.aload_n 0, 1) := by decide +kernel
theorem dl_1674 : decode code 1674 = .ok (.iload_n 3, 1) := by decide +kernel
theorem dl_1675 : decode code 1675 = .ok (.iconst 2, 1) := by decide +kernel
theorem dl_1676 : decode code 1676 = .ok (.iadd, 1) := by decide +kernel
theorem dl_1677 : decode code 1677 = .ok (.iaload, 1) := by decide +kernel
theorem dl_1678 : decode code 1678 = .ok (.invokevirtual 191, 3) := by decide +kernel
theorem dl_1681 : decode code 1681 = .ok (.aload_n 2, 1) := by decide +kernel
theorem dl_1682 : decode code 1682 = .ok (.aload_n 0, 1) := by decide +kernel
theorem dl_1683 : decode code 1683 = .ok (.iload_n 3, 1) := by decide +kernel
theorem dl_1684 : decode code 1684 = .ok (.iconst 1, 1) := by decide +kernel
theorem dl_1685 : decode code 1685 = .ok (.iadd, 1) := by decide +kernel
theorem dl_1686 : decode code 1686 = .ok (.iaload, 1) := by decide +kernel
theorem dl_1687 : decode code 1687 = .ok (.aload_n 0, 1) := by decide +kernel
theorem dl_1688 : decode code 1688 = .ok (.iload_n 3, 1) := by decide +kernel
theorem dl_1689 : decode code 1689 = .ok (.iconst 2, 1) := by decide +kernel
theorem dl_1690 : decode code 1690 = .ok (.iadd, 1) := by decide +kernel
theorem dl_1691 : decode code 1691 = .ok (.iaload, 1) := by decide +kernel
theorem dl_1692 : decode code 1692 = .ok (.invokevirtual 194, 3) := by decide +kernel
theorem dl_1695 : decode code 1695 = .ok (.if_icmp .eq 439, 3) := by decide +kernel
theorem dl_1700 : decode code 1700 = .ok (.aload_n 1, 1) := by decide +kernel
theorem dl_1701 : decode code 1701 = .ok (.aload_n 0, 1) := by decide +kernel
theorem dl_1702 : decode code 1702 = .ok (.iload_n 3, 1) := by decide +kernel
theorem dl_1703 : decode code 1703 = .ok (.iconst 1, 1) := by decide +kernel
theorem dl_1704 : decode code 1704 = .ok (.iadd, 1) := by decide +kernel
theorem dl_1705 : decode code 1705 = .ok (.iaload, 1) := by decide +kernel
theorem dl_1706 : decode code 1706 = .ok (.aload_n 0, 1) := by decide +kernel
theorem dl_1707 : decode code 1707 = .ok (.iload_n 3, 1) := by decide +kernel
theorem dl_1708 : decode code 1708 = .ok (.iconst 2, 1) := by decide +kernel
theorem dl_1709 : decode code 1709 = .ok (.iadd, 1) := by decide +kernel
theorem dl_1710 : decode code 1710 = .ok (.iaload, 1) := by decide +kernel
theorem dl_1711 : decode code 1711 = .ok (.invokevirtual 195, 3) := by decide +kernel
theorem dl_1714 : decode code 1714 = .ok (.aload_n 2, 1) := by decide +kernel
theorem dl_1715 : decode code 1715 = .ok (.aload_n 0, 1) := by decide +kernel
theorem dl_1716 : decode code 1716 = .ok (.iload_n 3, 1) := by decide +kernel
theorem dl_1717 : decode code 1717 = .ok (.iconst 1, 1) := by decide +kernel
theorem dl_1718 : decode code 1718 = .ok (.iadd, 1) := by decide +kernel
theorem dl_1719 : decode code 1719 = .ok (.iaload, 1) := by decide +kernel
theorem dl_1720 : decode code 1720 = .ok (.aload_n 0, 1) := by decide +kernel
theorem dl_1721 : decode code 1721 = .ok (.iload_n 3, 1) := by decide +kernel
theorem dl_1722 : decode code 1722 = .ok (.iconst 2, 1) := by decide +kernel
theorem dl_1723 : decode code 1723 = .ok (.iadd, 1) := by decide +kernel
theorem dl_1724 : decode code 1724 = .ok (.iaload, 1) := by decide +kernel
theorem dl_1725 : decode code 1725 = .ok (.invokevirtual 198, 3) := by decide +kernel
theorem dl_1728 : decode code 1728 = .ok (.if_icmp .eq 406, 3) := by decide +kernel
theorem dl_1733 : decode code 1733 = .ok (.aload_n 1, 1) := by decide +kernel
theorem dl_1734 : decode code 1734 = .ok (.aload_n 0, 1) := by decide +kernel
theorem dl_1735 : decode code 1735 = .ok (.iload_n 3, 1) := by decide +kernel
theorem dl_1736 : decode code 1736 = .ok (.iconst 1, 1) := by decide +kernel
theorem dl_1737 : decode code 1737 = .ok (.iadd, 1) := by decide +kernel
theorem dl_1738 : decode code 1738 = .ok (.iaload, 1) := by decide +kernel
theorem dl_1739 : decode code 1739 = .ok (.invokevirtual 199, 3) := by decide +kernel
theorem dl_1742 : decode code 1742 = .ok (.aload_n 2, 1) := by decide +kernel
theorem dl_1743 : decode code 1743 = .ok (.aload_n 0, 1) := by decide +kernel
theorem dl_1744 : decode code 1744 = .ok (.iload_n 3, 1) := by decide +kernel
theorem dl_1745 : decode code 1745 = .ok (.iconst 1, 1) := by decide +kernel
theorem dl_1746 : decode code 1746 = .ok (.iadd, 1) := by decide +kernel
theorem dl_1747 : decode code 1747 = .ok (.iaload, 1) := by decide +kernel
theorem dl_1748 : decode code 1748 = .ok (.invokevirtual 202, 3) := by decide +kernel
theorem dl_1751 : decode code 1751 = .ok (.if_icmp .eq 383, 3) := by decide +kernel
theorem dl_1756 : decode code 1756 = .ok (.aload_n 1, 1) := by decide +kernel
theorem dl_1757 : decode code 1757 = .ok (.aload_n 0, 1) := by decide +kernel
theorem dl_1758 : decode code 1758 = .ok (.iload_n 3, 1) := by decide +kernel
theorem dl_1759 : decode code 1759 = .ok (.iconst 1, 1) := by decide +kernel
theorem dl_1760 : decode code 1760 = .ok (.iadd, 1) := by decide +kernel
theorem dl_1761 : decode code 1761 = .ok (.iaload, 1) := by decide +kernel
theorem dl_1762 : decode code 1762 = .ok (.invokevirtual 203, 3) := by decide +kernel
theorem dl_1765 : decode code 1765 = .ok (.aload_n 2, 1) := by decide +kernel
theorem dl_1766 : decode code 1766 = .ok (.aload_n 0, 1) := by decide +kernel
theorem dl_1767 : decode code 1767 = .ok (.iload_n 3, 1) := by decide +kernel
theorem dl_1768 : decode code 1768 = .ok (.iconst 1, 1) := by decide +kernel
theorem dl_1769 : decode code 1769 = .ok (.iadd, 1) := by decide +kernel
theorem dl_1770 : decode code 1770 = .ok (.iaload, 1) := by decide +kernel
theorem dl_1771 : decode code 1771 = .ok (.invokevirtual 206, 3) := by decide +kernel
theorem dl_1774 : decode code 1774 = .ok (.if_icmp .eq 360, 3) := by decide +kernel
theorem dl_1779 : decode code 1779 = .ok (.aload_n 1, 1) := by decide +kernel
theorem dl_1780 : decode code 1780 = .ok (.invokevirtual 207, 3) := by decide +kernel
theorem dl_1783 : decode code 1783 = .ok (.aload_n 2, 1) := by decide +kernel
theorem dl_1784 : decode code 1784 = .ok (.invokevirtual 210, 3) := by decide +kernel
theorem dl_1787 : decode code 1787 = .ok (.if_icmp .eq 347, 3) := by decide +kernel
theorem dl_1792 : decode code 1792 = .ok (.aload_n 1, 1) := by decide +kernel
theorem dl_1793 : decode code 1793 = .ok (.invokevirtual 211, 3) := by decide +kernel
theorem dl_1796 : decode code 1796 = .ok (.aload_n 2, 1) := by decide +kernel
theorem dl_1797 : decode code 1797 = .ok (.invokevirtual 214, 3) := by decide +kernel
theorem dl_1800 : decode code 1800 = .ok (.if_icmp .eq 334, 3) := by decide +kernel
theorem dl_1805 : decode code 1805 = .ok (.aload_n 1, 1) := by decide +kernel
theorem dl_1806 : decode code 1806 = .ok (.invokevirtual 215, 3) := by decide +kernel
theorem dl_1809 : decode code 1809 = .ok (.aload_n 2, 1) := by decide +kernel
theorem dl_1810 : decode code 1810 = .ok (.invokevirtual 218, 3) := by decide +kernel
theorem dl_1813 : decode code 1813 = .ok (.if_icmp .eq 321, 3) := by decide +kernel
theorem dl_1818 : decode code 1818 = .ok (.aload_n 1, 1) := by decide +kernel
theorem dl_1819 : decode code 1819 = .ok (.aload_n 0, 1) := by decide +kernel
theorem dl_1820 : decode code 1820 = .ok (.iload_n 3, 1) := by decide +kernel
theorem dl_1821 : decode code 1821 = .ok (.iconst 1, 1) := by decide +kernel
theorem dl_1822 : decode code 1822 = .ok (.iadd, 1) := by decide +kernel
theorem dl_1823 : decode code 1823 = .ok (.iaload, 1) := by decide +kernel
theorem dl_1824 : decode code 1824 = .ok (.aload_n 0, 1) := by decide +kernel
theorem dl_1825 : decode code 1825 = .ok (.iload_n 3, 1) := by decide +kernel
theorem dl_1826 : decode code 1826 = .ok (.iconst 2, 1) := by decide +kernel
theorem dl_1827 : decode code 1827 = .ok (.iadd, 1) := by decide +kernel
theorem dl_1828 : decode code 1828 = .ok (.iaload, 1) := by decide +kernel
theorem dl_1829 : decode code 1829 = .ok (.invokevirtual 219, 3) := by decide +kernel
theorem dl_1832 : decode code 1832 = .ok (.aload_n 2, 1) := by decide +kernel
theorem dl_1833 : decode code 1833 = .ok (.aload_n 0, 1) := by decide +kernel
theorem dl_1834 : decode code 1834 = .ok (.iload_n 3, 1) := by decide +kernel
theorem dl_1835 : decode code 1835 = .ok (.iconst 1, 1) := by decide +kernel
theorem dl_1836 : decode code 1836 = .ok (.iadd, 1) := by decide +kernel
theorem dl_1837 : decode code 1837 = .ok (.iaload, 1) := by decide +kernel
theorem dl_1838 : decode code 1838 = .ok (.aload_n 0, 1) := by decide +kernel
theorem dl_1839 : decode code 1839 = .ok (.iload_n 3, 1) := by decide +kernel
theorem dl_1840 : decode code 1840 = .ok (.iconst 2, 1) := by decide +kernel
theorem dl_1841 : decode code 1841 = .ok (.iadd, 1) := by decide +kernel
theorem dl_1842 : decode code 1842 = .ok (.iaload, 1) := by decide +kernel
theorem dl_1843 : decode code 1843 = .ok (.invokevirtual 222, 3) := by decide +kernel
theorem dl_1846 : decode code 1846 = .ok (.if_icmp .eq 288, 3) := by decide +kernel
theorem dl_1851 : decode code 1851 = .ok (.aload_n 1, 1) := by decide +kernel
theorem dl_1852 : decode code 1852 = .ok (.invokevirtual 223, 3) := by decide +kernel
theorem dl_1855 : decode code 1855 = .ok (.aload_n 2, 1) := by decide +kernel
theorem dl_1856 : decode code 1856 = .ok (.invokevirtual 226, 3) := by decide +kernel
theorem dl_1859 : decode code 1859 = .ok (.if_icmp .eq 275, 3) := by decide +kernel
theorem dl_1864 : decode code 1864 = .ok (.aload_n 1, 1) := by decide +kernel
theorem dl_1865 : decode code 1865 = .ok (.aload_n 0, 1) := by decide +kernel
theorem dl_1866 : decode code 1866 = .ok (.iload_n 3, 1) := by decide +kernel
theorem dl_1867 : decode code 1867 = .ok (.iconst 1, 1) := by decide +kernel
theorem dl_1868 : decode code 1868 = .ok (.iadd, 1) := by decide +kernel
theorem dl_1869 : decode code 1869 = .ok (.iaload, 1) := by decide +kernel
theorem dl_1870 : decode code 1870 = .ok (.invokevirtual 227, 3) := by decide +kernel
theorem dl_1873 : decode code 1873 = .ok (.aload_n 2, 1) := by decide +kernel
theorem dl_1874 : decode code 1874 = .ok (.aload_n 0, 1) := by decide +kernel
theorem dl_1875 : decode code 1875 = .ok (.iload_n 3, 1) := by decide +kernel
theorem dl_1876 : decode code 1876 = .ok (.iconst 1, 1) := by decide +kernel
theorem dl_1877 : decode code 1877 = .ok (.iadd, 1) := by decide +kernel
theorem dl_1878 : decode code 1878 = .ok (.iaload, 1) := by decide +kernel
theorem dl_1879 : decode code 1879 = .ok (.invokevirtual 230, 3) := by decide +kernel
theorem dl_1882 : decode code 1882 = .ok (.if_icmp .eq 252, 3) := by decide +kernel
theorem dl_1887 : decode code 1887 = .ok (.aload_n 1, 1) := by decide +kernel
theorem dl_1888 : decode code 1888 = .ok (.aload_n 0, 1) := by decide +kernel
theorem dl_1889 : decode code 1889 = .ok (.iload_n 3, 1) := by decide +kernel
theorem dl_1890 : decode code 1890 = .ok (.iconst 1, 1) := by decide +kernel
theorem dl_1891 : decode code 1891 = .ok (.iadd, 1) := by decide +kernel
theorem dl_1892 : decode code 1892 = .ok (.iaload, 1) := by decide +kernel
theorem dl_1893 : decode code 1893 = .ok (.aload_n 0, 1) := by decide +kernel
theorem dl_1894 : decode code 1894 = .ok (.iload_n 3, 1) := by decide +kernel
theorem dl_1895 : decode code 1895 = .ok (.iconst 2, 1) := by decide +kernel
theorem dl_1896 : decode code 1896 = .ok (.iadd, 1) := by decide +kernel
theorem dl_1897 : decode code 1897 = .ok (.iaload, 1) := by decide +kernel
theorem dl_1898 : decode code 1898 = .ok (.aload_n 0, 1) := by decide +kernel
theorem dl_1899 : decode code 1899 = .ok (.iload_n 3, 1) := by decide +kernel
theorem dl_1900 : decode code 1900 = .ok (.iconst 3, 1) := by decide +kernel
theorem dl_1901 : decode code 1901 = .ok (.iadd, 1) := by decide +kernel
theorem dl_1902 : decode code 1902 = .ok (.iaload, 1) := by decide +kernel
theorem dl_1903 : decode code 1903 = .ok (.invokevirtual 231, 3) := by decide +kernel
theorem dl_1906 : decode code 1906 = .ok (.aload_n 2, 1) := by decide +kernel
theorem dl_1907 : decode code 1907 = .ok (.aload_n 0, 1) := by decide +kernel
theorem dl_1908 : decode code 1908 = .ok (.iload_n 3, 1) := by decide +kernel
theorem dl_1909 : decode code 1909 = .ok (.iconst 1, 1) := by decide +kernel
theorem dl_1910 : decode code 1910 = .ok (.iadd, 1) := by decide +kernel
theorem dl_1911 : decode code 1911 = .ok (.iaload, 1) := by decide +kernel
theorem dl_1912 : decode code 1912 = .ok (.aload_n 0, 1) := by decide +kernel
theorem dl_1913 : decode code 1913 = .ok (.iload_n 3, 1) := by decide +kernel
theorem dl_1914 : decode code 1914 = .ok (.iconst 2, 1) := by decide +kernel
theorem dl_1915 : decode code 1915 = .ok (.iadd, 1) := by decide +kernel
theorem dl_1916 : decode code 1916 = .ok (.iaload, 1) := by decide +kernel
theorem dl_1917 : decode code 1917 = .ok (.aload_n 0, 1) := by decide +kernel
theorem dl_1918 : decode code 1918 = .ok (.iload_n 3, 1) := by decide +kernel
theorem dl_1919 : decode code 1919 = .ok (.iconst 3, 1) := by decide +kernel
theorem dl_1920 : decode code 1920 = .ok (.iadd, 1) := by decide +kernel
theorem dl_1921 : decode code 1921 = .ok (.iaload, 1) := by decide +kernel
theorem dl_1922 : decode code 1922 = .ok (.invokevirtual 234, 3) := by decide +kernel
theorem dl_1925 : decode code 1925 = .ok (.if_icmp .eq 209, 3) := by decide +kernel
theorem dl_1930 : decode code 1930 = .ok (.aload_n 1, 1) := by decide +kernel
theorem dl_1931 : decode code 1931 = .ok (.aload_n 0, 1) := by decide +kernel
theorem dl_1932 : decode code 1932 = .ok (.iload_n 3, 1) := by decide +kernel
theorem dl_1933 : decode code 1933 = .ok (.iconst 1, 1) := by decide +kernel
theorem dl_1934 : decode code 1934 = .ok (.iadd, 1) := by decide +kernel
theorem dl_1935 : decode code 1935 = .ok (.iaload, 1) := by decide +kernel
theorem dl_1936 : decode code 1936 = .ok (.aload_n 0, 1) := by decide +kernel
theorem dl_1937 : decode code 1937 = .ok (.iload_n 3, 1) := by decide +kernel
theorem dl_1938 : decode code 1938 = .ok (.iconst 2, 1) := by decide +kernel
theorem dl_1939 : decode code 1939 = .ok (.iadd, 1) := by decide +kernel
theorem dl_1940 : decode code 1940 = .ok (.iaload, 1) := by decide +kernel
theorem dl_1941 : decode code 1941 = .ok (.aload_n 0, 1) := by decide +kernel
theorem dl_1942 : decode code 1942 = .ok (.iload_n 3, 1) := by decide +kernel
theorem dl_1943 : decode code 1943 = .ok (.iconst 3, 1) := by decide +kernel
theorem dl_1944 : decode code 1944 = .ok (.iadd, 1) := by decide +kernel
theorem dl_1945 : decode code 1945 = .ok (.iaload, 1) := by decide +kernel
theorem dl_1946 : decode code 1946 = .ok (.invokevirtual 235, 3) := by decide +kernel
theorem dl_1949 : decode code 1949 = .ok (.aload_n 2, 1) := by decide +kernel
theorem dl_1950 : decode code 1950 = .ok (.aload_n 0, 1) := by decide +kernel
theorem dl_1951 : decode code 1951 = .ok (.iload_n 3, 1) := by decide +kernel
theorem dl_1952 : decode code 1952 = .ok (.iconst 1, 1) := by decide +kernel
theorem dl_1953 : decode code 1953 = .ok (.iadd, 1) := by decide +kernel
theorem dl_1954 : decode code 1954 = .ok (.iaload, 1) := by decide +kernel
theorem dl_1955 : decode code 1955 = .ok (.aload_n 0, 1) := by decide +kernel
theorem dl_1956 : decode code 1956 = .ok (.iload_n 3, 1) := by decide +kernel
theorem dl_1957 : decode code 1957 = .ok (.iconst 2, 1) := by decide +kernel
theorem dl_1958 : decode code 1958 = .ok (.iadd, 1) := by decide +kernel
theorem dl_1959 : decode code 1959 = .ok (.iaload, 1) := by decide +kernel
theorem dl_1960 : decode code 1960 = .ok (.aload_n 0, 1) := by decide +kernel
theorem dl_1961 : decode code 1961 = .ok (.iload_n 3, 1) := by decide +kernel
theorem dl_1962 : decode code 1962 = .ok (.iconst 3, 1) := by decide +kernel
theorem dl_1963 : decode code 1963 = .ok (.iadd, 1) := by decide +kernel
theorem dl_1964 : decode code 1964 = .ok (.iaload, 1) := by decide +kernel
theorem dl_1965 : decode code 1965 = .ok (.invokevirtual 238, 3) := by decide +kernel
theorem dl_1968 : decode code 1968 = .ok (.if_icmp .eq 166, 3) := by decide +kernel
theorem dl_1973 : decode code 1973 = .ok (.aload_n 1, 1) := by decide +kernel
theorem dl_1974 : decode code 1974 = .ok (.aload_n 0, 1) := by decide +kernel
theorem dl_1975 : decode code 1975 = .ok (.iload_n 3, 1) := by decide +kernel
theorem dl_1976 : decode code 1976 = .ok (.iconst 1, 1) := by decide +kernel
theorem dl_1977 : decode code 1977 = .ok (.iadd, 1) := by decide +kernel
theorem dl_1978 : decode code 1978 = .ok (.iaload, 1) := by decide +kernel
theorem dl_1979 : decode code 1979 = .ok (.aload_n 0, 1) := by decide +kernel
theorem dl_1980 : decode code 1980 = .ok (.iload_n 3, 1) := by decide +kernel
theorem dl_1981 : decode code 1981 = .ok (.iconst 2, 1) := by decide +kernel
theorem dl_1982 : decode code 1982 = .ok (.iadd, 1) := by decide +kernel
theorem dl_1983 : decode code 1983 = .ok (.iaload, 1) := by decide +kernel
theorem dl_1984 : decode code 1984 = .ok (.invokevirtual 239, 3) := by decide +kernel
theorem dl_1987 : decode code 1987 = .ok (.aload_n 2, 1) := by decide +kernel
theorem dl_1988 : decode code 1988 = .ok (.aload_n 0, 1) := by decide +kernel
theorem dl_1989 : decode code 1989 = .ok (.iload_n 3, 1) := by decide +kernel
theorem dl_1990 : decode code 1990 = .ok (.iconst 1, 1) := by decide +kernel
theorem dl_1991 : decode code 1991 = .ok (.iadd, 1) := by decide +kernel
